def f_X12_ends_35 (k0 : Nat → Mm → Prop → Unit × Mm × Prop) (l0 : Nat) (m : Mm) (o : Prop) : Unit × Mm × Prop := k0 l0 m o
set_option maxRecDepth 10000 in
theorem t_X12_ends_35 (l : Launch) (E : En) (c0 s0 : Nat) (k0 : Nat → Mm → Prop → Unit × Mm × Prop) (hk0 : ∀ (l0 : Nat) (m : Mm) (o : Prop), Mh wU l E mi_X12_ends c0 s0 0 [(0, .ref l0)] [] m o (k0 l0 m o)) (l0 : Nat) (m : Mm) (o : Prop) : Mh wU l E mi_X12_ends c0 s0 35 [(0, .ref l0)] [] m o (f_X12_ends_35 k0 l0 m o) := by
  refine Mh_goto (tgt := 0) dX12_ends_35 (by decide) ?_
  exact hk0 _ _ _
def f_X12_ends_25 (k0 : Nat → Mm → Prop → Unit × Mm × Prop) (l0 : Nat) (m : Mm) (o : Prop) : Unit × Mm × Prop := f_X12_ends_35 k0 l0 (sI m l0 40 ((gI m l0 40) - (1 : Int32))) (o ∧ gT m l0 = 12)
set_option maxRecDepth 10000 in
theorem t_X12_ends_25 (l : Launch) (E : En) (c0 s0 : Nat) (k0 : Nat → Mm → Prop → Unit × Mm × Prop) (hk0 : ∀ (l0 : Nat) (m : Mm) (o : Prop), Mh wU l E mi_X12_ends c0 s0 0 [(0, .ref l0)] [] m o (k0 l0 m o)) (l0 : Nat) (m : Mm) (o : Prop) : Mh wU l E mi_X12_ends c0 s0 25 [(0, .ref l0)] [] m o (f_X12_ends_25 k0 l0 m o) := by
  refine Mh_aload_n 0 rfl dX12_ends_25 ?_
  refine Mh_dup dX12_ends_26 rfl ?_
  refine Mh_gI fd_11_40 fl_RX12_254 dX12_ends_27 ?_
  refine Mh_iconst (v := 1) dX12_ends_30 (by decide) ?_
  refine Mh_isub dX12_ends_31 ?_
  refine Mh_pI fd_11_40 ft_11 rfl fl_RX12_254 rfl dX12_ends_32 ?_
  refine Mh_ok (fun h => h.2) ?_
  exact t_X12_ends_35 l E c0 s0 k0 hk0 _ _ _
def f_X12_ends_15 (k0 : Nat → Mm → Prop → Unit × Mm × Prop) (l0 : Nat) (m : Mm) (o : Prop) : Unit × Mm × Prop := f_X12_ends_25 k0 l0 (sI m l0 41 ((gI m l0 41) - (1 : Int32))) (o ∧ gT m l0 = 12)
set_option maxRecDepth 10000 in
theorem t_X12_ends_15 (l : Launch) (E : En) (c0 s0 : Nat) (k0 : Nat → Mm → Prop → Unit × Mm × Prop) (hk0 : ∀ (l0 : Nat) (m : Mm) (o : Prop), Mh wU l E mi_X12_ends c0 s0 0 [(0, .ref l0)] [] m o (k0 l0 m o)) (l0 : Nat) (m : Mm) (o : Prop) : Mh wU l E mi_X12_ends c0 s0 15 [(0, .ref l0)] [] m o (f_X12_ends_15 k0 l0 m o) := by
  refine Mh_aload_n 0 rfl dX12_ends_15 ?_
  refine Mh_dup dX12_ends_16 rfl ?_
  refine Mh_gI fd_11_41 fl_RX12_251 dX12_ends_17 ?_
  refine Mh_iconst (v := 1) dX12_ends_20 (by decide) ?_
  refine Mh_isub dX12_ends_21 ?_
  refine Mh_pI fd_11_41 ft_11 rfl fl_RX12_251 rfl dX12_ends_22 ?_
  refine Mh_ok (fun h => h.2) ?_
  exact t_X12_ends_25 l E c0 s0 k0 hk0 _ _ _
def f_X12_ends_4 (k0 : Nat → Mm → Prop → Unit × Mm × Prop) (l0 : Nat) (y0 : Int32) (m : Mm) (o : Prop) : Unit × Mm × Prop := if y0 = (33 : Int32) then (bnd (F_X12_emit l0 (2 : Int32) (0 : Int32) m (o ∧ gT m l0 = 12)) (fun _ m1 o1 => f_X12_ends_15 k0 l0 m1 o1)) else ((), m, o)
set_option maxRecDepth 10000 in
theorem t_X12_ends_4 (l : Launch) (E : En) (c0 s0 : Nat) (k0 : Nat → Mm → Prop → Unit × Mm × Prop) (hk0 : ∀ (l0 : Nat) (m : Mm) (o : Prop), Mh wU l E mi_X12_ends c0 s0 0 [(0, .ref l0)] [] m o (k0 l0 m o)) (l0 : Nat) (y0 : Int32) (m : Mm) (o : Prop) : Mh wU l E mi_X12_ends c0 s0 4 [(0, .ref l0)] [.int y0] m o (f_X12_ends_4 k0 l0 y0 m o) := by
  refine Mh_bipush (v := 33) dX12_ends_4 (by decide) ?_
  refine Mh_icmp_ne (tgt := 38) dX12_ends_6 (by decide) rfl (fun _ => ?_) (fun _ => ?_)
  · exact Mh_ret dX12_ends_38 rfl (fun _ => trivial) rfl
  · refine Mh_aload_n 0 rfl dX12_ends_9 ?_
    refine Mh_iconst (v := 2) dX12_ends_10 (by decide) ?_
    refine Mh_iconst (v := 0) dX12_ends_11 (by decide) ?_
    refine Mh_cvU (N := mi_X12_emit) (q := l0) (ci := 11) (as := [.int (2 : Int32), .int (0 : Int32)]) (st := []) (id) cg_yX12_emit (by decide) rfl rfl ml_RX12_284 iv_yX12_emit pd_yX12_emit rfl (by decide) (Nat.le_of_ble_eq_true rfl) rfl dX12_ends_12 (T_X12_emit l E _ _ _ _ _) rfl ?_
    exact t_X12_ends_15 l E c0 s0 k0 hk0 _ _ _
def f_X12_ends_0b (k0 : Nat → Mm → Prop → Unit × Mm × Prop) (l0 : Nat) (m : Mm) (o : Prop) : Unit × Mm × Prop := bnd (F_X12_top l0 m (o ∧ gT m l0 = 12)) (fun v1 m1 o1 => f_X12_ends_4 k0 l0 v1 m1 o1)
set_option maxRecDepth 10000 in
theorem t_X12_ends_0b (l : Launch) (E : En) (c0 s0 : Nat) (k0 : Nat → Mm → Prop → Unit × Mm × Prop) (hk0 : ∀ (l0 : Nat) (m : Mm) (o : Prop), Mh wU l E mi_X12_ends c0 s0 0 [(0, .ref l0)] [] m o (k0 l0 m o)) (l0 : Nat) (m : Mm) (o : Prop) : Mh wU l E mi_X12_ends c0 s0 0 [(0, .ref l0)] [] m o (f_X12_ends_0b k0 l0 m o) := by
  refine Mh_aload_n 0 rfl dX12_ends_0 ?_
  refine Mh_cvI (N := mi_X12_top) (q := l0) (ci := 11) (as := []) (st := []) (id) cg_yX12_top (by decide) rfl rfl ml_RX12_275 iv_yX12_top pd_yX12_top rfl (by decide) (Nat.le_of_ble_eq_true rfl) rfl dX12_ends_1 (T_X12_top l E _ _ _) rfl ?_
  exact t_X12_ends_4 l E c0 s0 k0 hk0 _ _ _ _
def f_X12_ends_0 : Nat → Nat → Mm → Prop → Unit × Mm × Prop
  | 0, _, m, _ => ((), m, False)
  | n + 1, l0, m, o => f_X12_ends_0b (f_X12_ends_0 n) l0 m o
theorem t_X12_ends_0 (l : Launch) (E : En) (c0 s0 : Nat) : ∀ (n : Nat) (l0 : Nat) (m : Mm) (o : Prop), Mh wU l E mi_X12_ends c0 s0 0 [(0, .ref l0)] [] m o (f_X12_ends_0 n l0 m o)
  | 0, _, _, _ => Mh_out rfl
  | n + 1, l0, m, o => t_X12_ends_0b l E c0 s0 (f_X12_ends_0 n) (t_X12_ends_0 l E c0 s0 n) l0 m o
def F_X12_ends (a0 : Nat) (m : Mm) (o : Prop) : Unit × Mm × Prop := f_X12_ends_0 1000 a0 m o
theorem T_X12_ends (l : Launch) (E : En) (a0 : Nat) (m : Mm) (o : Prop) : Mt wU l E yX12_ends mi_X12_ends [.ref a0] m o (F_X12_ends a0 m o) :=
  Mt_U (by decide) rfl (fun h => by cases h) rfl (Nat.le_of_ble_eq_true rfl) rfl (t_X12_ends_0 l E _ _ _ _ _ _)
def f_X12_here_28 (y0 : Int32) (m : Mm) (o : Prop) : Int32 × Mm × Prop := (y0, m, o)
set_option maxRecDepth 10000 in
theorem t_X12_here_28 (l : Launch) (E : En) (c0 s0 : Nat) (y0 : Int32) (m : Mm) (o : Prop) : Mh wI l E mi_X12_here c0 s0 28 [] [.int y0] m o (f_X12_here_28 y0 m o) := by
  exact Mh_ret dX12_here_28 rfl (fun _ => rfl) rfl
def f_X12_here_0 (l0 : Nat) (m : Mm) (o : Prop) : Int32 × Mm × Prop := if (gI m l0 36) ≤ (gI m l0 35) then (f_X12_here_28 (0 : Int32) m (o ∧ gT m l0 = 12)) else (f_X12_here_28 ((gI m (gR m l0 0) (ix (gI m l0 35))) &&& (255 : Int32)) m (((o ∧ gT m l0 = 12) ∧ (gT m l0 = 12 ∧ gR m l0 0 ≠ 0)) ∧ (gT m (gR m l0 0) = 23 ∧ vp_in (gI m l0 35) (gN m (gR m l0 0)))))
set_option maxRecDepth 10000 in
theorem t_X12_here_0 (l : Launch) (E : En) (c0 s0 : Nat) (l0 : Nat) (m : Mm) (o : Prop) : Mh wI l E mi_X12_here c0 s0 0 [(0, .ref l0)] [] m o (f_X12_here_0 l0 m o) := by
  refine Mh_aload_n 0 rfl dX12_here_0 ?_
  refine Mh_gI fd_11_35 fl_RX12_235 dX12_here_1 ?_
  refine Mh_aload_n 0 rfl dX12_here_4 ?_
  refine Mh_gI fd_11_36 fl_RX12_238 dX12_here_5 ?_
  refine Mh_ok (fun h => h.2) ?_
  refine Mh_icmp_ge (tgt := 27) dX12_here_8 (by decide) rfl (fun _ => ?_) (fun _ => ?_)
  · refine Mh_iconst (v := 0) dX12_here_27 (by decide) ?_
    refine Mh_sub (lv' := []) [] rfl ?_
    exact t_X12_here_28 l E c0 s0 _ _ _
  · refine Mh_aload_n 0 rfl dX12_here_11 ?_
    refine Mh_gR fd_11_0 fl_RX12_7 dX12_here_12 ?_
    refine Mh_aload_n 0 rfl dX12_here_15 ?_
    refine Mh_gI fd_11_35 fl_RX12_235 dX12_here_16 ?_
    refine Mh_ok (fun h => h.1.2) ?_
    refine Mh_bal dX12_here_19 ?_
    refine Mh_sipush (v := 255) dX12_here_20 (by decide) ?_
    refine Mh_iand dX12_here_23 ?_
    refine Mh_goto (tgt := 28) dX12_here_24 (by decide) ?_
    refine Mh_sub (lv' := []) [] rfl ?_
    exact t_X12_here_28 l E c0 s0 _ _ _
def F_X12_here (a0 : Nat) (m : Mm) (o : Prop) : Int32 × Mm × Prop := f_X12_here_0 a0 m o
theorem T_X12_here (l : Launch) (E : En) (a0 : Nat) (m : Mm) (o : Prop) : Mt wI l E yX12_here mi_X12_here [.ref a0] m o (F_X12_here a0 m o) :=
  Mt_I (by decide) rfl rfl rfl (Nat.le_of_ble_eq_true rfl) rfl (.inl rfl) (t_X12_here_0 l E _ _ _ _ _)
def f_X12_joins_41 (k0 : Nat → Int32 → Mm → Prop → Unit × Mm × Prop) (l0 : Nat) (l1 : Int32) (m : Mm) (o : Prop) : Unit × Mm × Prop := k0 l0 l1 m o
set_option maxRecDepth 10000 in
theorem t_X12_joins_41 (l : Launch) (E : En) (c0 s0 : Nat) (k0 : Nat → Int32 → Mm → Prop → Unit × Mm × Prop) (hk0 : ∀ (l0 : Nat) (l1 : Int32) (m : Mm) (o : Prop), Mh wU l E mi_X12_joins c0 s0 0 [(0, .ref l0), (1, .int l1)] [] m o (k0 l0 l1 m o)) (l0 : Nat) (l1 : Int32) (m : Mm) (o : Prop) : Mh wU l E mi_X12_joins c0 s0 41 [(0, .ref l0), (1, .int l1)] [] m o (f_X12_joins_41 k0 l0 l1 m o) := by
  refine Mh_goto (tgt := 0) dX12_joins_41 (by decide) ?_
  exact hk0 _ _ _ _
def f_X12_joins_31 (k0 : Nat → Int32 → Mm → Prop → Unit × Mm × Prop) (l0 : Nat) (l1 : Int32) (m : Mm) (o : Prop) : Unit × Mm × Prop := f_X12_joins_41 k0 l0 l1 (sI m l0 41 ((gI m l0 41) - (1 : Int32))) (o ∧ gT m l0 = 12)
set_option maxRecDepth 10000 in
theorem t_X12_joins_31 (l : Launch) (E : En) (c0 s0 : Nat) (k0 : Nat → Int32 → Mm → Prop → Unit × Mm × Prop) (hk0 : ∀ (l0 : Nat) (l1 : Int32) (m : Mm) (o : Prop), Mh wU l E mi_X12_joins c0 s0 0 [(0, .ref l0), (1, .int l1)] [] m o (k0 l0 l1 m o)) (l0 : Nat) (l1 : Int32) (m : Mm) (o : Prop) : Mh wU l E mi_X12_joins c0 s0 31 [(0, .ref l0), (1, .int l1)] [] m o (f_X12_joins_31 k0 l0 l1 m o) := by
  refine Mh_aload_n 0 rfl dX12_joins_31 ?_
  refine Mh_dup dX12_joins_32 rfl ?_
  refine Mh_gI fd_11_41 fl_RX12_251 dX12_joins_33 ?_
  refine Mh_iconst (v := 1) dX12_joins_36 (by decide) ?_
  refine Mh_isub dX12_joins_37 ?_
  refine Mh_pI fd_11_41 ft_11 rfl fl_RX12_251 rfl dX12_joins_38 ?_
  refine Mh_ok (fun h => h.2) ?_
  exact t_X12_joins_41 l E c0 s0 k0 hk0 _ _ _ _
def f_X12_joins_27 (k0 : Nat → Int32 → Mm → Prop → Unit × Mm × Prop) (l0 : Nat) (l1 : Int32) (y1 : Int32) (y0 : Nat) (m : Mm) (o : Prop) : Unit × Mm × Prop := bnd (F_X12_emit y0 y1 (0 : Int32) m (o ∧ gT m y0 = 12)) (fun _ m1 o1 => f_X12_joins_31 k0 l0 l1 m1 o1)
set_option maxRecDepth 10000 in
theorem t_X12_joins_27 (l : Launch) (E : En) (c0 s0 : Nat) (k0 : Nat → Int32 → Mm → Prop → Unit × Mm × Prop) (hk0 : ∀ (l0 : Nat) (l1 : Int32) (m : Mm) (o : Prop), Mh wU l E mi_X12_joins c0 s0 0 [(0, .ref l0), (1, .int l1)] [] m o (k0 l0 l1 m o)) (l0 : Nat) (l1 : Int32) (y1 : Int32) (y0 : Nat) (m : Mm) (o : Prop) : Mh wU l E mi_X12_joins c0 s0 27 [(0, .ref l0), (1, .int l1)] [.int y1, .ref y0] m o (f_X12_joins_27 k0 l0 l1 y1 y0 m o) := by
  refine Mh_iconst (v := 0) dX12_joins_27 (by decide) ?_
  refine Mh_cvU (N := mi_X12_emit) (q := y0) (ci := 11) (as := [.int y1, .int (0 : Int32)]) (st := []) (id) cg_yX12_emit (by decide) rfl rfl ml_RX12_284 iv_yX12_emit pd_yX12_emit rfl (by decide) (Nat.le_of_ble_eq_true rfl) rfl dX12_joins_28 (T_X12_emit l E _ _ _ _ _) rfl ?_
  exact t_X12_joins_31 l E c0 s0 k0 hk0 _ _ _ _
def f_X12_joins_22 (k0 : Nat → Int32 → Mm → Prop → Unit × Mm × Prop) (l0 : Nat) (l1 : Int32) (m : Mm) (o : Prop) : Unit × Mm × Prop := bnd (F_X12_top l0 m (o ∧ gT m l0 = 12)) (fun v1 m1 o1 => f_X12_joins_27 k0 l0 l1 v1 l0 m1 o1)
set_option maxRecDepth 10000 in
theorem t_X12_joins_22 (l : Launch) (E : En) (c0 s0 : Nat) (k0 : Nat → Int32 → Mm → Prop → Unit × Mm × Prop) (hk0 : ∀ (l0 : Nat) (l1 : Int32) (m : Mm) (o : Prop), Mh wU l E mi_X12_joins c0 s0 0 [(0, .ref l0), (1, .int l1)] [] m o (k0 l0 l1 m o)) (l0 : Nat) (l1 : Int32) (m : Mm) (o : Prop) : Mh wU l E mi_X12_joins c0 s0 22 [(0, .ref l0), (1, .int l1)] [] m o (f_X12_joins_22 k0 l0 l1 m o) := by
  refine Mh_aload_n 0 rfl dX12_joins_22 ?_
  refine Mh_aload_n 0 rfl dX12_joins_23 ?_
  refine Mh_cvI (N := mi_X12_top) (q := l0) (ci := 11) (as := []) (st := [.ref l0]) (id) cg_yX12_top (by decide) rfl rfl ml_RX12_275 iv_yX12_top pd_yX12_top rfl (by decide) (Nat.le_of_ble_eq_true rfl) rfl dX12_joins_24 (T_X12_top l E _ _ _) rfl ?_
  exact t_X12_joins_27 l E c0 s0 k0 hk0 _ _ _ _ _ _
def f_X12_joins_44 (m : Mm) (o : Prop) : Unit × Mm × Prop := ((), m, o)
set_option maxRecDepth 10000 in
theorem t_X12_joins_44 (l : Launch) (E : En) (c0 s0 : Nat) (m : Mm) (o : Prop) : Mh wU l E mi_X12_joins c0 s0 44 [] [] m o (f_X12_joins_44  m o) := by
  exact Mh_ret dX12_joins_44 rfl (fun _ => trivial) rfl
def f_X12_joins_17 (k0 : Nat → Int32 → Mm → Prop → Unit × Mm × Prop) (l0 : Nat) (l1 : Int32) (y0 : Int32) (m : Mm) (o : Prop) : Unit × Mm × Prop := if y0 = (124 : Int32) then (f_X12_joins_22 k0 l0 l1 m o) else (f_X12_joins_44  m o)
set_option maxRecDepth 10000 in
theorem t_X12_joins_17 (l : Launch) (E : En) (c0 s0 : Nat) (k0 : Nat → Int32 → Mm → Prop → Unit × Mm × Prop) (hk0 : ∀ (l0 : Nat) (l1 : Int32) (m : Mm) (o : Prop), Mh wU l E mi_X12_joins c0 s0 0 [(0, .ref l0), (1, .int l1)] [] m o (k0 l0 l1 m o)) (l0 : Nat) (l1 : Int32) (y0 : Int32) (m : Mm) (o : Prop) : Mh wU l E mi_X12_joins c0 s0 17 [(0, .ref l0), (1, .int l1)] [.int y0] m o (f_X12_joins_17 k0 l0 l1 y0 m o) := by
  refine Mh_bipush (v := 124) dX12_joins_17 (by decide) ?_
  refine Mh_icmp_ne (tgt := 44) dX12_joins_19 (by decide) rfl (fun _ => ?_) (fun _ => ?_)
  · refine Mh_sub (lv' := []) [] rfl ?_
    exact t_X12_joins_44 l E c0 s0  _ _
  · exact t_X12_joins_22 l E c0 s0 k0 hk0 _ _ _ _
def f_X12_joins_4 (k0 : Nat → Int32 → Mm → Prop → Unit × Mm × Prop) (l0 : Nat) (l1 : Int32) (y0 : Int32) (m : Mm) (o : Prop) : Unit × Mm × Prop := if y0 = (38 : Int32) then (f_X12_joins_22 k0 l0 l1 m o) else (if l1 = 0 then (f_X12_joins_44  m o) else (bnd (F_X12_top l0 m (o ∧ gT m l0 = 12)) (fun v1 m1 o1 => f_X12_joins_17 k0 l0 l1 v1 m1 o1)))
set_option maxRecDepth 10000 in
theorem t_X12_joins_4 (l : Launch) (E : En) (c0 s0 : Nat) (k0 : Nat → Int32 → Mm → Prop → Unit × Mm × Prop) (hk0 : ∀ (l0 : Nat) (l1 : Int32) (m : Mm) (o : Prop), Mh wU l E mi_X12_joins c0 s0 0 [(0, .ref l0), (1, .int l1)] [] m o (k0 l0 l1 m o)) (l0 : Nat) (l1 : Int32) (y0 : Int32) (m : Mm) (o : Prop) : Mh wU l E mi_X12_joins c0 s0 4 [(0, .ref l0), (1, .int l1)] [.int y0] m o (f_X12_joins_4 k0 l0 l1 y0 m o) := by
  refine Mh_bipush (v := 38) dX12_joins_4 (by decide) ?_
  refine Mh_icmp_eq (tgt := 22) dX12_joins_6 (by decide) rfl (fun _ => ?_) (fun _ => ?_)
  · exact t_X12_joins_22 l E c0 s0 k0 hk0 _ _ _ _
  · refine Mh_iload_n 1 rfl dX12_joins_9 ?_
    refine Mh_if_eq (tgt := 44) dX12_joins_10 (by decide) rfl (fun _ => ?_) (fun _ => ?_)
    · refine Mh_sub (lv' := []) [] rfl ?_
      exact t_X12_joins_44 l E c0 s0  _ _
    · refine Mh_aload_n 0 rfl dX12_joins_13 ?_
      refine Mh_cvI (N := mi_X12_top) (q := l0) (ci := 11) (as := []) (st := []) (id) cg_yX12_top (by decide) rfl rfl ml_RX12_275 iv_yX12_top pd_yX12_top rfl (by decide) (Nat.le_of_ble_eq_true rfl) rfl dX12_joins_14 (T_X12_top l E _ _ _) rfl ?_
      exact t_X12_joins_17 l E c0 s0 k0 hk0 _ _ _ _ _
def f_X12_joins_0b (k0 : Nat → Int32 → Mm → Prop → Unit × Mm × Prop) (l0 : Nat) (l1 : Int32) (m : Mm) (o : Prop) : Unit × Mm × Prop := bnd (F_X12_top l0 m (o ∧ gT m l0 = 12)) (fun v1 m1 o1 => f_X12_joins_4 k0 l0 l1 v1 m1 o1)
set_option maxRecDepth 10000 in
theorem t_X12_joins_0b (l : Launch) (E : En) (c0 s0 : Nat) (k0 : Nat → Int32 → Mm → Prop → Unit × Mm × Prop) (hk0 : ∀ (l0 : Nat) (l1 : Int32) (m : Mm) (o : Prop), Mh wU l E mi_X12_joins c0 s0 0 [(0, .ref l0), (1, .int l1)] [] m o (k0 l0 l1 m o)) (l0 : Nat) (l1 : Int32) (m : Mm) (o : Prop) : Mh wU l E mi_X12_joins c0 s0 0 [(0, .ref l0), (1, .int l1)] [] m o (f_X12_joins_0b k0 l0 l1 m o) := by
  refine Mh_aload_n 0 rfl dX12_joins_0 ?_
  refine Mh_cvI (N := mi_X12_top) (q := l0) (ci := 11) (as := []) (st := []) (id) cg_yX12_top (by decide) rfl rfl ml_RX12_275 iv_yX12_top pd_yX12_top rfl (by decide) (Nat.le_of_ble_eq_true rfl) rfl dX12_joins_1 (T_X12_top l E _ _ _) rfl ?_
  exact t_X12_joins_4 l E c0 s0 k0 hk0 _ _ _ _ _
def f_X12_joins_0 : Nat → Nat → Int32 → Mm → Prop → Unit × Mm × Prop
  | 0, _, _, m, _ => ((), m, False)
  | n + 1, l0, l1, m, o => f_X12_joins_0b (f_X12_joins_0 n) l0 l1 m o
theorem t_X12_joins_0 (l : Launch) (E : En) (c0 s0 : Nat) : ∀ (n : Nat) (l0 : Nat) (l1 : Int32) (m : Mm) (o : Prop), Mh wU l E mi_X12_joins c0 s0 0 [(0, .ref l0), (1, .int l1)] [] m o (f_X12_joins_0 n l0 l1 m o)
  | 0, _, _, _, _ => Mh_out rfl
  | n + 1, l0, l1, m, o => t_X12_joins_0b l E c0 s0 (f_X12_joins_0 n) (t_X12_joins_0 l E c0 s0 n) l0 l1 m o
def F_X12_joins (a0 : Nat) (a1 : Int32) (m : Mm) (o : Prop) : Unit × Mm × Prop := f_X12_joins_0 1000 a0 a1 m o
theorem T_X12_joins (l : Launch) (E : En) (a0 : Nat) (a1 : Int32) (m : Mm) (o : Prop) : Mt wU l E yX12_joins mi_X12_joins [.ref a0, .int a1] m o (F_X12_joins a0 a1 m o) :=
  Mt_U (by decide) rfl (fun h => by cases h) rfl (Nat.le_of_ble_eq_true rfl) rfl (t_X12_joins_0 l E _ _ _ _ _ _ _)
def f_X12_puts_30 (m : Mm) (o : Prop) : Unit × Mm × Prop := ((), m, o)
set_option maxRecDepth 10000 in
theorem t_X12_puts_30 (l : Launch) (E : En) (c0 s0 : Nat) (m : Mm) (o : Prop) : Mh wU l E mi_X12_puts c0 s0 30 [] [] m o (f_X12_puts_30  m o) := by
  exact Mh_ret dX12_puts_30 rfl (fun _ => trivial) rfl
def f_X12_puts_20 (l0 : Nat) (m : Mm) (o : Prop) : Unit × Mm × Prop := f_X12_puts_30  (sI m l0 35 ((gI m l0 35) + (1 : Int32))) (o ∧ gT m l0 = 12)
set_option maxRecDepth 10000 in
theorem t_X12_puts_20 (l : Launch) (E : En) (c0 s0 : Nat) (l0 : Nat) (m : Mm) (o : Prop) : Mh wU l E mi_X12_puts c0 s0 20 [(0, .ref l0)] [] m o (f_X12_puts_20 l0 m o) := by
  refine Mh_aload_n 0 rfl dX12_puts_20 ?_
  refine Mh_dup dX12_puts_21 rfl ?_
  refine Mh_gI fd_11_35 fl_RX12_235 dX12_puts_22 ?_
  refine Mh_iconst (v := 1) dX12_puts_25 (by decide) ?_
  refine Mh_iadd dX12_puts_26 ?_
  refine Mh_pI fd_11_35 ft_11 rfl fl_RX12_235 rfl dX12_puts_27 ?_
  refine Mh_ok (fun h => h.2) ?_
  refine Mh_sub (lv' := []) [] rfl ?_
  exact t_X12_puts_30 l E c0 s0  _ _
def f_X12_puts_10 (l0 : Nat) (m : Mm) (o : Prop) : Unit × Mm × Prop := f_X12_puts_20 l0 (sI m l0 41 ((gI m l0 41) + (1 : Int32))) (o ∧ gT m l0 = 12)
set_option maxRecDepth 10000 in
theorem t_X12_puts_10 (l : Launch) (E : En) (c0 s0 : Nat) (l0 : Nat) (m : Mm) (o : Prop) : Mh wU l E mi_X12_puts c0 s0 10 [(0, .ref l0)] [] m o (f_X12_puts_10 l0 m o) := by
  refine Mh_aload_n 0 rfl dX12_puts_10 ?_
  refine Mh_dup dX12_puts_11 rfl ?_
  refine Mh_gI fd_11_41 fl_RX12_251 dX12_puts_12 ?_
  refine Mh_iconst (v := 1) dX12_puts_15 (by decide) ?_
  refine Mh_iadd dX12_puts_16 ?_
  refine Mh_pI fd_11_41 ft_11 rfl fl_RX12_251 rfl dX12_puts_17 ?_
  refine Mh_ok (fun h => h.2) ?_
  exact t_X12_puts_20 l E c0 s0 _ _ _
def f_X12_puts_0 (l0 : Nat) (l1 : Int32) (m : Mm) (o : Prop) : Unit × Mm × Prop := f_X12_puts_10 l0 (sI m (gR m l0 44) (ix (gI m l0 41)) l1) (((o ∧ (gT m l0 = 12 ∧ gR m l0 44 ≠ 0)) ∧ gT m l0 = 12) ∧ (gT m (gR m l0 44) = 20 ∧ vp_in (gI m l0 41) (gN m (gR m l0 44))))
set_option maxRecDepth 10000 in
theorem t_X12_puts_0 (l : Launch) (E : En) (c0 s0 : Nat) (l0 : Nat) (l1 : Int32) (m : Mm) (o : Prop) : Mh wU l E mi_X12_puts c0 s0 0 [(0, .ref l0), (1, .int l1)] [] m o (f_X12_puts_0 l0 l1 m o) := by
  refine Mh_aload_n 0 rfl dX12_puts_0 ?_
  refine Mh_gR fd_11_44 fl_RX12_100 dX12_puts_1 ?_
  refine Mh_aload_n 0 rfl dX12_puts_4 ?_
  refine Mh_gI fd_11_41 fl_RX12_251 dX12_puts_5 ?_
  refine Mh_iload_n 1 rfl dX12_puts_8 ?_
  refine Mh_ias dX12_puts_9 ?_
  refine Mh_sub (lv' := [(0, .ref l0)]) [0] rfl ?_
  exact t_X12_puts_10 l E c0 s0 _ _ _
def F_X12_puts (a0 : Nat) (a1 : Int32) (m : Mm) (o : Prop) : Unit × Mm × Prop := f_X12_puts_0 a0 a1 m o
theorem T_X12_puts (l : Launch) (E : En) (a0 : Nat) (a1 : Int32) (m : Mm) (o : Prop) : Mt wU l E yX12_puts mi_X12_puts [.ref a0, .int a1] m o (F_X12_puts a0 a1 m o) :=
  Mt_U (by decide) rfl (fun h => by cases h) rfl (Nat.le_of_ble_eq_true rfl) rfl (t_X12_puts_0 l E _ _ _ _ _ _)
def f_X12_wrongs_25 (m : Mm) (o : Prop) : Unit × Mm × Prop := ((), m, o)
set_option maxRecDepth 10000 in
theorem t_X12_wrongs_25 (l : Launch) (E : En) (c0 s0 : Nat) (m : Mm) (o : Prop) : Mh wU l E mi_X12_wrongs c0 s0 25 [] [] m o (f_X12_wrongs_25  m o) := by
  exact Mh_ret dX12_wrongs_25 rfl (fun _ => trivial) rfl
def f_X12_wrongs_22 (y1 : Int32) (y0 : Nat) (m : Mm) (o : Prop) : Unit × Mm × Prop := f_X12_wrongs_25  (sI m y0 37 y1) (o ∧ gT m y0 = 12)
set_option maxRecDepth 10000 in
theorem t_X12_wrongs_22 (l : Launch) (E : En) (c0 s0 : Nat) (y1 : Int32) (y0 : Nat) (m : Mm) (o : Prop) : Mh wU l E mi_X12_wrongs c0 s0 22 [] [.int y1, .ref y0] m o (f_X12_wrongs_22 y1 y0 m o) := by
  refine Mh_pI fd_11_37 ft_11 rfl fl_RX12_241 rfl dX12_wrongs_22 ?_
  exact t_X12_wrongs_25 l E c0 s0  _ _
def f_X12_wrongs_0 (l0 : Nat) (l1 : Int32) (l2 : Int32) (m : Mm) (o : Prop) : Unit × Mm × Prop := if 0 ≤ (gI m l0 37) then (f_X12_wrongs_22 (((-1000 : Int32) * l1) - l2) l0 m (o ∧ gT m l0 = 12)) else (f_X12_wrongs_22 (gI m l0 37) l0 m (o ∧ gT m l0 = 12))
set_option maxRecDepth 10000 in
theorem t_X12_wrongs_0 (l : Launch) (E : En) (c0 s0 : Nat) (l0 : Nat) (l1 : Int32) (l2 : Int32) (m : Mm) (o : Prop) : Mh wU l E mi_X12_wrongs c0 s0 0 [(0, .ref l0), (1, .int l1), (2, .int l2)] [] m o (f_X12_wrongs_0 l0 l1 l2 m o) := by
  refine Mh_aload_n 0 rfl dX12_wrongs_0 ?_
  refine Mh_aload_n 0 rfl dX12_wrongs_1 ?_
  refine Mh_gI fd_11_37 fl_RX12_241 dX12_wrongs_2 ?_
  refine Mh_if_ge (tgt := 15) dX12_wrongs_5 (by decide) rfl (fun _ => ?_) (fun _ => ?_)
  · refine Mh_sipush (v := (-1000)) dX12_wrongs_15 (by decide) ?_
    refine Mh_iload_n 1 rfl dX12_wrongs_18 ?_
    refine Mh_imul dX12_wrongs_19 ?_
    refine Mh_iload_n 2 rfl dX12_wrongs_20 ?_
    refine Mh_isub dX12_wrongs_21 ?_
    refine Mh_sub (lv' := []) [] rfl ?_
    exact t_X12_wrongs_22 l E c0 s0 _ _ _ _
  · refine Mh_aload_n 0 rfl dX12_wrongs_8 ?_
    refine Mh_gI fd_11_37 fl_RX12_241 dX12_wrongs_9 ?_
    refine Mh_ok (fun h => h.2) ?_
    refine Mh_goto (tgt := 22) dX12_wrongs_12 (by decide) ?_
    refine Mh_sub (lv' := []) [] rfl ?_
    exact t_X12_wrongs_22 l E c0 s0 _ _ _ _
def F_X12_wrongs (a0 : Nat) (a1 : Int32) (a2 : Int32) (m : Mm) (o : Prop) : Unit × Mm × Prop := f_X12_wrongs_0 a0 a1 a2 m o
theorem T_X12_wrongs (l : Launch) (E : En) (a0 : Nat) (a1 : Int32) (a2 : Int32) (m : Mm) (o : Prop) : Mt wU l E yX12_wrongs mi_X12_wrongs [.ref a0, .int a1, .int a2] m o (F_X12_wrongs a0 a1 a2 m o) :=
  Mt_U (by decide) rfl (fun h => by cases h) rfl (Nat.le_of_ble_eq_true rfl) rfl (t_X12_wrongs_0 l E _ _ _ _ _ _ _)
def f_X12_goesBehind_37 (m : Mm) (o : Prop) : Int32 × Mm × Prop := ((1 : Int32), m, o)
set_option maxRecDepth 10000 in
theorem t_X12_goesBehind_37 (l : Launch) (E : En) (c0 s0 : Nat) (m : Mm) (o : Prop) : Mh wI l E mi_X12_goesBehind c0 s0 37 [] [] m o (f_X12_goesBehind_37  m o) := by
  refine Mh_iconst (v := 1) dX12_goesBehind_37 (by decide) ?_
  exact Mh_ret dX12_goesBehind_38 rfl (fun _ => rk1Z) rfl
def f_X12_goesBehind_32 (l0 : Nat) (l1 : Int32) (m : Mm) (o : Prop) : Int32 × Mm × Prop := bnd (F_X12_puts l0 l1 m (o ∧ gT m l0 = 12)) (fun _ m1 o1 => f_X12_goesBehind_37  m1 o1)
set_option maxRecDepth 10000 in
theorem t_X12_goesBehind_32 (l : Launch) (E : En) (c0 s0 : Nat) (l0 : Nat) (l1 : Int32) (m : Mm) (o : Prop) : Mh wI l E mi_X12_goesBehind c0 s0 32 [(0, .ref l0), (1, .int l1)] [] m o (f_X12_goesBehind_32 l0 l1 m o) := by
  refine Mh_aload_n 0 rfl dX12_goesBehind_32 ?_
  refine Mh_iload_n 1 rfl dX12_goesBehind_33 ?_
  refine Mh_cvU (N := mi_X12_puts) (q := l0) (ci := 11) (as := [.int l1]) (st := []) (id) cg_yX12_puts (by decide) rfl rfl ml_RX12_265 iv_yX12_puts pd_yX12_puts rfl (by decide) (Nat.le_of_ble_eq_true rfl) rfl dX12_goesBehind_34 (T_X12_puts l E _ _ _ _) rfl ?_
  refine Mh_sub (lv' := []) [] rfl ?_
  exact t_X12_goesBehind_37 l E c0 s0  _ _
def f_X12_goesBehind_29 (l0 : Nat) (l1 : Int32) (y1 : Int32) (y0 : Nat) (m : Mm) (o : Prop) : Int32 × Mm × Prop := bnd (F_X12_joins y0 y1 m (o ∧ gT m y0 = 12)) (fun _ m1 o1 => f_X12_goesBehind_32 l0 l1 m1 o1)
set_option maxRecDepth 10000 in
theorem t_X12_goesBehind_29 (l : Launch) (E : En) (c0 s0 : Nat) (l0 : Nat) (l1 : Int32) (y1 : Int32) (y0 : Nat) (m : Mm) (o : Prop) : Mh wI l E mi_X12_goesBehind c0 s0 29 [(0, .ref l0), (1, .int l1)] [.int y1, .ref y0] m o (f_X12_goesBehind_29 l0 l1 y1 y0 m o) := by
  refine Mh_cvU (N := mi_X12_joins) (q := y0) (ci := 11) (as := [.int y1]) (st := []) (id) cg_yX12_joins (by decide) rfl rfl ml_RX12_319 iv_yX12_joins pd_yX12_joins rfl (by decide) (Nat.le_of_ble_eq_true rfl) rfl dX12_goesBehind_29 (T_X12_joins l E _ _ _ _) rfl ?_
  exact t_X12_goesBehind_32 l E c0 s0 _ _ _ _
def f_X12_goesBehind_17 (l0 : Nat) (l1 : Int32) (m : Mm) (o : Prop) : Int32 × Mm × Prop := if l1 = (124 : Int32) then (f_X12_goesBehind_29 l0 l1 (1 : Int32) l0 m o) else (f_X12_goesBehind_29 l0 l1 (0 : Int32) l0 m o)
set_option maxRecDepth 10000 in
theorem t_X12_goesBehind_17 (l : Launch) (E : En) (c0 s0 : Nat) (l0 : Nat) (l1 : Int32) (m : Mm) (o : Prop) : Mh wI l E mi_X12_goesBehind c0 s0 17 [(0, .ref l0), (1, .int l1)] [] m o (f_X12_goesBehind_17 l0 l1 m o) := by
  refine Mh_aload_n 0 rfl dX12_goesBehind_17 ?_
  refine Mh_iload_n 1 rfl dX12_goesBehind_18 ?_
  refine Mh_bipush (v := 124) dX12_goesBehind_19 (by decide) ?_
  refine Mh_icmp_ne (tgt := 28) dX12_goesBehind_21 (by decide) rfl (fun _ => ?_) (fun _ => ?_)
  · refine Mh_iconst (v := 0) dX12_goesBehind_28 (by decide) ?_
    exact t_X12_goesBehind_29 l E c0 s0 _ _ _ _ _ _
  · refine Mh_iconst (v := 1) dX12_goesBehind_24 (by decide) ?_
    refine Mh_goto (tgt := 29) dX12_goesBehind_25 (by decide) ?_
    exact t_X12_goesBehind_29 l E c0 s0 _ _ _ _ _ _
def f_X12_goesBehind_54 (m : Mm) (o : Prop) : Int32 × Mm × Prop := ((0 : Int32), m, o)
set_option maxRecDepth 10000 in
theorem t_X12_goesBehind_54 (l : Launch) (E : En) (c0 s0 : Nat) (m : Mm) (o : Prop) : Mh wI l E mi_X12_goesBehind c0 s0 54 [] [] m o (f_X12_goesBehind_54  m o) := by
  refine Mh_iconst (v := 0) dX12_goesBehind_54 (by decide) ?_
  exact Mh_ret dX12_goesBehind_55 rfl (fun _ => rk0Z) rfl
def f_X12_goesBehind_118 (m : Mm) (o : Prop) : Int32 × Mm × Prop := ((0 : Int32), m, o)
set_option maxRecDepth 10000 in
theorem t_X12_goesBehind_118 (l : Launch) (E : En) (c0 s0 : Nat) (m : Mm) (o : Prop) : Mh wI l E mi_X12_goesBehind c0 s0 118 [] [] m o (f_X12_goesBehind_118  m o) := by
  refine Mh_iconst (v := 0) dX12_goesBehind_118 (by decide) ?_
  exact Mh_ret dX12_goesBehind_119 rfl (fun _ => rk0Z) rfl
def f_X12_goesBehind_107 (l0 : Nat) (m : Mm) (o : Prop) : Int32 × Mm × Prop := if (gI m l0 42) = 0 then (bnd (F_X12_ends l0 m (o ∧ gT m l0 = 12)) (fun _ m1 o1 => f_X12_goesBehind_118  m1 o1)) else (f_X12_goesBehind_118  m (o ∧ gT m l0 = 12))
set_option maxRecDepth 10000 in
theorem t_X12_goesBehind_107 (l : Launch) (E : En) (c0 s0 : Nat) (l0 : Nat) (m : Mm) (o : Prop) : Mh wI l E mi_X12_goesBehind c0 s0 107 [(0, .ref l0)] [] m o (f_X12_goesBehind_107 l0 m o) := by
  refine Mh_aload_n 0 rfl dX12_goesBehind_107 ?_
  refine Mh_gI fd_11_42 fl_RX12_322 dX12_goesBehind_108 ?_
  refine Mh_if_ne (tgt := 118) dX12_goesBehind_111 (by decide) rfl (fun _ => ?_) (fun _ => ?_)
  · refine Mh_sub (lv' := []) [] rfl ?_
    exact t_X12_goesBehind_118 l E c0 s0  _ _
  · refine Mh_aload_n 0 rfl dX12_goesBehind_114 ?_
    refine Mh_cvU (N := mi_X12_ends) (q := l0) (ci := 11) (as := []) (st := []) (fun h => ⟨h, (fun h => h.2) h⟩) cg_yX12_ends (by decide) rfl rfl ml_RX12_316 iv_yX12_ends pd_yX12_ends rfl (by decide) (Nat.le_of_ble_eq_true rfl) rfl dX12_goesBehind_115 (T_X12_ends l E _ _ _) rfl ?_
    refine Mh_sub (lv' := []) [] rfl ?_
    exact t_X12_goesBehind_118 l E c0 s0  _ _
def f_X12_goesBehind_104 (l0 : Nat) (y1 : Int32) (y0 : Nat) (m : Mm) (o : Prop) : Int32 × Mm × Prop := f_X12_goesBehind_107 l0 (sI m y0 42 y1) (o ∧ (gT m y0 = 12 ∧ (y1 = 0 ∨ y1 = 1)))
set_option maxRecDepth 10000 in
theorem t_X12_goesBehind_104 (l : Launch) (E : En) (c0 s0 : Nat) (l0 : Nat) (y1 : Int32) (y0 : Nat) (m : Mm) (o : Prop) : Mh wI l E mi_X12_goesBehind c0 s0 104 [(0, .ref l0)] [.int y1, .ref y0] m o (f_X12_goesBehind_104 l0 y1 y0 m o) := by
  refine Mh_pZ fd_11_42 ft_11 rfl fl_RX12_322 rfl dX12_goesBehind_104 ?_
  exact t_X12_goesBehind_107 l E c0 s0 _ _ _
def f_X12_goesBehind_91 (l0 : Nat) (m : Mm) (o : Prop) : Int32 × Mm × Prop := if (gI m l0 41) = 0 then (f_X12_goesBehind_104 l0 (1 : Int32) l0 m (o ∧ gT m l0 = 12)) else (f_X12_goesBehind_104 l0 (0 : Int32) l0 m (o ∧ gT m l0 = 12))
set_option maxRecDepth 10000 in
theorem t_X12_goesBehind_91 (l : Launch) (E : En) (c0 s0 : Nat) (l0 : Nat) (m : Mm) (o : Prop) : Mh wI l E mi_X12_goesBehind c0 s0 91 [(0, .ref l0)] [] m o (f_X12_goesBehind_91 l0 m o) := by
  refine Mh_aload_n 0 rfl dX12_goesBehind_91 ?_
  refine Mh_aload_n 0 rfl dX12_goesBehind_92 ?_
  refine Mh_gI fd_11_41 fl_RX12_251 dX12_goesBehind_93 ?_
  refine Mh_if_ne (tgt := 103) dX12_goesBehind_96 (by decide) rfl (fun _ => ?_) (fun _ => ?_)
  · refine Mh_iconst (v := 0) dX12_goesBehind_103 (by decide) ?_
    exact t_X12_goesBehind_104 l E c0 s0 _ _ _ _ _
  · refine Mh_iconst (v := 1) dX12_goesBehind_99 (by decide) ?_
    refine Mh_goto (tgt := 104) dX12_goesBehind_100 (by decide) ?_
    exact t_X12_goesBehind_104 l E c0 s0 _ _ _ _ _
def f_X12_goesBehind_81 (l0 : Nat) (m : Mm) (o : Prop) : Int32 × Mm × Prop := f_X12_goesBehind_91 l0 (sI m l0 35 ((gI m l0 35) + (1 : Int32))) (o ∧ gT m l0 = 12)
set_option maxRecDepth 10000 in
theorem t_X12_goesBehind_81 (l : Launch) (E : En) (c0 s0 : Nat) (l0 : Nat) (m : Mm) (o : Prop) : Mh wI l E mi_X12_goesBehind c0 s0 81 [(0, .ref l0)] [] m o (f_X12_goesBehind_81 l0 m o) := by
  refine Mh_aload_n 0 rfl dX12_goesBehind_81 ?_
  refine Mh_dup dX12_goesBehind_82 rfl ?_
  refine Mh_gI fd_11_35 fl_RX12_235 dX12_goesBehind_83 ?_
  refine Mh_iconst (v := 1) dX12_goesBehind_86 (by decide) ?_
  refine Mh_iadd dX12_goesBehind_87 ?_
  refine Mh_pI fd_11_35 ft_11 rfl fl_RX12_235 rfl dX12_goesBehind_88 ?_
  refine Mh_ok (fun h => h.2) ?_
  exact t_X12_goesBehind_91 l E c0 s0 _ _ _
def f_X12_goesBehind_71 (l0 : Nat) (m : Mm) (o : Prop) : Int32 × Mm × Prop := f_X12_goesBehind_81 l0 (sI m l0 40 ((gI m l0 40) - (1 : Int32))) (o ∧ gT m l0 = 12)
set_option maxRecDepth 10000 in
theorem t_X12_goesBehind_71 (l : Launch) (E : En) (c0 s0 : Nat) (l0 : Nat) (m : Mm) (o : Prop) : Mh wI l E mi_X12_goesBehind c0 s0 71 [(0, .ref l0)] [] m o (f_X12_goesBehind_71 l0 m o) := by
  refine Mh_aload_n 0 rfl dX12_goesBehind_71 ?_
  refine Mh_dup dX12_goesBehind_72 rfl ?_
  refine Mh_gI fd_11_40 fl_RX12_254 dX12_goesBehind_73 ?_
  refine Mh_iconst (v := 1) dX12_goesBehind_76 (by decide) ?_
  refine Mh_isub dX12_goesBehind_77 ?_
  refine Mh_pI fd_11_40 ft_11 rfl fl_RX12_254 rfl dX12_goesBehind_78 ?_
  refine Mh_ok (fun h => h.2) ?_
  exact t_X12_goesBehind_81 l E c0 s0 _ _ _
def f_X12_goesBehind_61 (l0 : Nat) (m : Mm) (o : Prop) : Int32 × Mm × Prop := f_X12_goesBehind_71 l0 (sI m l0 41 ((gI m l0 41) - (1 : Int32))) (o ∧ gT m l0 = 12)
set_option maxRecDepth 10000 in
theorem t_X12_goesBehind_61 (l : Launch) (E : En) (c0 s0 : Nat) (l0 : Nat) (m : Mm) (o : Prop) : Mh wI l E mi_X12_goesBehind c0 s0 61 [(0, .ref l0)] [] m o (f_X12_goesBehind_61 l0 m o) := by
  refine Mh_aload_n 0 rfl dX12_goesBehind_61 ?_
  refine Mh_dup dX12_goesBehind_62 rfl ?_
  refine Mh_gI fd_11_41 fl_RX12_251 dX12_goesBehind_63 ?_
  refine Mh_iconst (v := 1) dX12_goesBehind_66 (by decide) ?_
  refine Mh_isub dX12_goesBehind_67 ?_
  refine Mh_pI fd_11_41 ft_11 rfl fl_RX12_251 rfl dX12_goesBehind_68 ?_
  refine Mh_ok (fun h => h.2) ?_
  exact t_X12_goesBehind_71 l E c0 s0 _ _ _
def f_X12_goesBehind_4 (l0 : Nat) (y0 : Int32) (m : Mm) (o : Prop) : Int32 × Mm × Prop := if y0 = (38 : Int32) then (f_X12_goesBehind_17 l0 y0 m o) else (if y0 = (124 : Int32) then (f_X12_goesBehind_17 l0 y0 m o) else (if y0 = (41 : Int32) then (bnd (F_X12_joins l0 (1 : Int32) m (o ∧ gT m l0 = 12)) (fun _ m1 o1 => f_X12_goesBehind_61 l0 m1 o1)) else (bnd (F_X12_wrongs l0 (1 : Int32) (gI m l0 35) m (o ∧ gT m l0 = 12)) (fun _ m1 o1 => f_X12_goesBehind_54  m1 o1))))
set_option maxRecDepth 10000 in
theorem t_X12_goesBehind_4 (l : Launch) (E : En) (c0 s0 : Nat) (l0 : Nat) (y0 : Int32) (m : Mm) (o : Prop) : Mh wI l E mi_X12_goesBehind c0 s0 4 [(0, .ref l0)] [.int y0] m o (f_X12_goesBehind_4 l0 y0 m o) := by
  refine Mh_istore_n (lv' := [(1, .int y0), (0, .ref l0)]) dX12_goesBehind_4 (Nat.le_of_ble_eq_true rfl) rfl ?_
  refine Mh_iload_n 0 rfl dX12_goesBehind_5 ?_
  refine Mh_bipush (v := 38) dX12_goesBehind_6 (by decide) ?_
  refine Mh_icmp_eq (tgt := 17) dX12_goesBehind_8 (by decide) rfl (fun _ => ?_) (fun _ => ?_)
  · refine Mh_sub (lv' := [(0, .ref l0), (1, .int y0)]) [1, 0] rfl ?_
    exact t_X12_goesBehind_17 l E c0 s0 _ _ _ _
  · refine Mh_iload_n 0 rfl dX12_goesBehind_11 ?_
    refine Mh_bipush (v := 124) dX12_goesBehind_12 (by decide) ?_
    refine Mh_icmp_ne (tgt := 39) dX12_goesBehind_14 (by decide) rfl (fun _ => ?_) (fun _ => ?_)
    · refine Mh_iload_n 0 rfl dX12_goesBehind_39 ?_
      refine Mh_bipush (v := 41) dX12_goesBehind_40 (by decide) ?_
      refine Mh_icmp_eq (tgt := 56) dX12_goesBehind_42 (by decide) rfl (fun _ => ?_) (fun _ => ?_)
      · refine Mh_aload_n 1 rfl dX12_goesBehind_56 ?_
        refine Mh_iconst (v := 1) dX12_goesBehind_57 (by decide) ?_
        refine Mh_cvU (N := mi_X12_joins) (q := l0) (ci := 11) (as := [.int (1 : Int32)]) (st := []) (id) cg_yX12_joins (by decide) rfl rfl ml_RX12_319 iv_yX12_joins pd_yX12_joins rfl (by decide) (Nat.le_of_ble_eq_true rfl) rfl dX12_goesBehind_58 (T_X12_joins l E _ _ _ _) rfl ?_
        refine Mh_sub (lv' := [(0, .ref l0)]) [1] rfl ?_
        exact t_X12_goesBehind_61 l E c0 s0 _ _ _
      · refine Mh_aload_n 1 rfl dX12_goesBehind_45 ?_
        refine Mh_iconst (v := 1) dX12_goesBehind_46 (by decide) ?_
        refine Mh_aload_n 1 rfl dX12_goesBehind_47 ?_
        refine Mh_gI fd_11_35 fl_RX12_235 dX12_goesBehind_48 ?_
        refine Mh_cvU (N := mi_X12_wrongs) (q := l0) (ci := 11) (as := [.int (1 : Int32), .int (gI m l0 35)]) (st := []) (fun h => ⟨h, (fun h => h.2) h⟩) cg_yX12_wrongs (by decide) rfl rfl ml_RX12_257 iv_yX12_wrongs pd_yX12_wrongs rfl (by decide) (Nat.le_of_ble_eq_true rfl) rfl dX12_goesBehind_51 (T_X12_wrongs l E _ _ _ _ _) rfl ?_
        refine Mh_sub (lv' := []) [] rfl ?_
        exact t_X12_goesBehind_54 l E c0 s0  _ _
    · refine Mh_sub (lv' := [(0, .ref l0), (1, .int y0)]) [1, 0] rfl ?_
      exact t_X12_goesBehind_17 l E c0 s0 _ _ _ _
def f_X12_goesBehind_0 (l0 : Nat) (m : Mm) (o : Prop) : Int32 × Mm × Prop := bnd (F_X12_here l0 m (o ∧ gT m l0 = 12)) (fun v1 m1 o1 => f_X12_goesBehind_4 l0 v1 m1 o1)
set_option maxRecDepth 10000 in
theorem t_X12_goesBehind_0 (l : Launch) (E : En) (c0 s0 : Nat) (l0 : Nat) (m : Mm) (o : Prop) : Mh wI l E mi_X12_goesBehind c0 s0 0 [(0, .ref l0)] [] m o (f_X12_goesBehind_0 l0 m o) := by
  refine Mh_aload_n 0 rfl dX12_goesBehind_0 ?_
  refine Mh_cvI (N := mi_X12_here) (q := l0) (ci := 11) (as := []) (st := []) (id) cg_yX12_here (by decide) rfl rfl ml_RX12_261 iv_yX12_here pd_yX12_here rfl (by decide) (Nat.le_of_ble_eq_true rfl) rfl dX12_goesBehind_1 (T_X12_here l E _ _ _) rfl ?_
  exact t_X12_goesBehind_4 l E c0 s0 _ _ _ _
def F_X12_goesBehind (a0 : Nat) (m : Mm) (o : Prop) : Int32 × Mm × Prop := f_X12_goesBehind_0 a0 m o
theorem T_X12_goesBehind (l : Launch) (E : En) (a0 : Nat) (m : Mm) (o : Prop) : Mt wI l E yX12_goesBehind mi_X12_goesBehind [.ref a0] m o (F_X12_goesBehind a0 m o) :=
  Mt_I (by decide) rfl rfl rfl (Nat.le_of_ble_eq_true rfl) rfl (.inr (.inl rfl)) (t_X12_goesBehind_0 l E _ _ _ _ _)
def f_X12_opens_36 (m : Mm) (o : Prop) : Unit × Mm × Prop := ((), m, o)
set_option maxRecDepth 10000 in
theorem t_X12_opens_36 (l : Launch) (E : En) (c0 s0 : Nat) (m : Mm) (o : Prop) : Mh wU l E mi_X12_opens c0 s0 36 [] [] m o (f_X12_opens_36  m o) := by
  exact Mh_ret dX12_opens_36 rfl (fun _ => trivial) rfl
def f_X12_opens_33 (y1 : Int32) (y0 : Nat) (m : Mm) (o : Prop) : Unit × Mm × Prop := bnd (F_X12_puts y0 y1 m (o ∧ gT m y0 = 12)) (fun _ m1 o1 => f_X12_opens_36  m1 o1)
set_option maxRecDepth 10000 in
theorem t_X12_opens_33 (l : Launch) (E : En) (c0 s0 : Nat) (y1 : Int32) (y0 : Nat) (m : Mm) (o : Prop) : Mh wU l E mi_X12_opens c0 s0 33 [] [.int y1, .ref y0] m o (f_X12_opens_33 y1 y0 m o) := by
  refine Mh_cvU (N := mi_X12_puts) (q := y0) (ci := 11) (as := [.int y1]) (st := []) (id) cg_yX12_puts (by decide) rfl rfl ml_RX12_265 iv_yX12_puts pd_yX12_puts rfl (by decide) (Nat.le_of_ble_eq_true rfl) rfl dX12_opens_33 (T_X12_puts l E _ _ _ _) rfl ?_
  exact t_X12_opens_36 l E c0 s0  _ _
def f_X12_opens_28 (l0 : Nat) (m : Mm) (o : Prop) : Unit × Mm × Prop := bnd (F_X12_here l0 m (o ∧ gT m l0 = 12)) (fun v1 m1 o1 => f_X12_opens_33 v1 l0 m1 o1)
set_option maxRecDepth 10000 in
theorem t_X12_opens_28 (l : Launch) (E : En) (c0 s0 : Nat) (l0 : Nat) (m : Mm) (o : Prop) : Mh wU l E mi_X12_opens c0 s0 28 [(0, .ref l0)] [] m o (f_X12_opens_28 l0 m o) := by
  refine Mh_aload_n 0 rfl dX12_opens_28 ?_
  refine Mh_aload_n 0 rfl dX12_opens_29 ?_
  refine Mh_cvI (N := mi_X12_here) (q := l0) (ci := 11) (as := []) (st := [.ref l0]) (id) cg_yX12_here (by decide) rfl rfl ml_RX12_261 iv_yX12_here pd_yX12_here rfl (by decide) (Nat.le_of_ble_eq_true rfl) rfl dX12_opens_30 (T_X12_here l E _ _ _) rfl ?_
  refine Mh_sub (lv' := []) [] rfl ?_
  exact t_X12_opens_33 l E c0 s0 _ _ _ _
def f_X12_opens_18 (l0 : Nat) (m : Mm) (o : Prop) : Unit × Mm × Prop := f_X12_opens_28 l0 (sI m l0 40 ((gI m l0 40) + (1 : Int32))) (o ∧ gT m l0 = 12)
set_option maxRecDepth 10000 in
theorem t_X12_opens_18 (l : Launch) (E : En) (c0 s0 : Nat) (l0 : Nat) (m : Mm) (o : Prop) : Mh wU l E mi_X12_opens c0 s0 18 [(0, .ref l0)] [] m o (f_X12_opens_18 l0 m o) := by
  refine Mh_aload_n 0 rfl dX12_opens_18 ?_
  refine Mh_dup dX12_opens_19 rfl ?_
  refine Mh_gI fd_11_40 fl_RX12_254 dX12_opens_20 ?_
  refine Mh_iconst (v := 1) dX12_opens_23 (by decide) ?_
  refine Mh_iadd dX12_opens_24 ?_
  refine Mh_pI fd_11_40 ft_11 rfl fl_RX12_254 rfl dX12_opens_25 ?_
  refine Mh_ok (fun h => h.2) ?_
  exact t_X12_opens_28 l E c0 s0 _ _ _
def f_X12_opens_0 (l0 : Nat) (m : Mm) (o : Prop) : Unit × Mm × Prop := if (gI m l0 40) = (6 : Int32) then (bnd (F_X12_wrongs l0 (5 : Int32) (gI m l0 35) m (o ∧ gT m l0 = 12)) (fun _ m1 o1 => f_X12_opens_18 l0 m1 o1)) else (f_X12_opens_18 l0 m (o ∧ gT m l0 = 12))
set_option maxRecDepth 10000 in
theorem t_X12_opens_0 (l : Launch) (E : En) (c0 s0 : Nat) (l0 : Nat) (m : Mm) (o : Prop) : Mh wU l E mi_X12_opens c0 s0 0 [(0, .ref l0)] [] m o (f_X12_opens_0 l0 m o) := by
  refine Mh_aload_n 0 rfl dX12_opens_0 ?_
  refine Mh_gI fd_11_40 fl_RX12_254 dX12_opens_1 ?_
  refine Mh_bipush (v := 6) dX12_opens_4 (by decide) ?_
  refine Mh_icmp_ne (tgt := 18) dX12_opens_6 (by decide) rfl (fun _ => ?_) (fun _ => ?_)
  · exact t_X12_opens_18 l E c0 s0 _ _ _
  · refine Mh_aload_n 0 rfl dX12_opens_9 ?_
    refine Mh_iconst (v := 5) dX12_opens_10 (by decide) ?_
    refine Mh_aload_n 0 rfl dX12_opens_11 ?_
    refine Mh_gI fd_11_35 fl_RX12_235 dX12_opens_12 ?_
    refine Mh_ok (fun h => h.2) ?_
    refine Mh_cvU (N := mi_X12_wrongs) (q := l0) (ci := 11) (as := [.int (5 : Int32), .int (gI m l0 35)]) (st := []) (fun h => ⟨h, (fun h => h.2) h⟩) cg_yX12_wrongs (by decide) rfl rfl ml_RX12_257 iv_yX12_wrongs pd_yX12_wrongs rfl (by decide) (Nat.le_of_ble_eq_true rfl) rfl dX12_opens_15 (T_X12_wrongs l E _ _ _ _ _) rfl ?_
    exact t_X12_opens_18 l E c0 s0 _ _ _
def F_X12_opens (a0 : Nat) (m : Mm) (o : Prop) : Unit × Mm × Prop := f_X12_opens_0 a0 m o
theorem T_X12_opens (l : Launch) (E : En) (a0 : Nat) (m : Mm) (o : Prop) : Mt wU l E yX12_opens mi_X12_opens [.ref a0] m o (F_X12_opens a0 m o) :=
  Mt_U (by decide) rfl (fun h => by cases h) rfl (Nat.le_of_ble_eq_true rfl) rfl (t_X12_opens_0 l E _ _ _ _ _)
def f_X12_isSign_23 (y0 : Int32) (m : Mm) (o : Prop) : Int32 × Mm × Prop := (y0, m, o ∧ (y0 = 0 ∨ y0 = 1))
set_option maxRecDepth 10000 in
theorem t_X12_isSign_23 (l : Launch) (E : En) (c0 s0 : Nat) (y0 : Int32) (m : Mm) (o : Prop) : Mh wI l E mi_X12_isSign c0 s0 23 [] [.int y0] m o (f_X12_isSign_23 y0 m o) := by
  exact Mh_retZ dX12_isSign_23 (.inl rfl) rfl
def f_X12_isSign_18 (m : Mm) (o : Prop) : Int32 × Mm × Prop := f_X12_isSign_23 (1 : Int32) m o
set_option maxRecDepth 10000 in
theorem t_X12_isSign_18 (l : Launch) (E : En) (c0 s0 : Nat) (m : Mm) (o : Prop) : Mh wI l E mi_X12_isSign c0 s0 18 [] [] m o (f_X12_isSign_18  m o) := by
  refine Mh_iconst (v := 1) dX12_isSign_18 (by decide) ?_
  refine Mh_goto (tgt := 23) dX12_isSign_19 (by decide) ?_
  exact t_X12_isSign_23 l E c0 s0 _ _ _
def f_X12_isSign_0 (l0 : Int32) (m : Mm) (o : Prop) : Int32 × Mm × Prop := if l0 = (60 : Int32) then (f_X12_isSign_18  m o) else (if l0 = (62 : Int32) then (f_X12_isSign_18  m o) else (if l0 = (61 : Int32) then (f_X12_isSign_18  m o) else (f_X12_isSign_23 (0 : Int32) m o)))
set_option maxRecDepth 10000 in
theorem t_X12_isSign_0 (l : Launch) (E : En) (c0 s0 : Nat) (l0 : Int32) (m : Mm) (o : Prop) : Mh wI l E mi_X12_isSign c0 s0 0 [(0, .int l0)] [] m o (f_X12_isSign_0 l0 m o) := by
  refine Mh_iload_n 0 rfl dX12_isSign_0 ?_
  refine Mh_bipush (v := 60) dX12_isSign_1 (by decide) ?_
  refine Mh_icmp_eq (tgt := 18) dX12_isSign_3 (by decide) rfl (fun _ => ?_) (fun _ => ?_)
  · refine Mh_sub (lv' := []) [] rfl ?_
    exact t_X12_isSign_18 l E c0 s0  _ _
  · refine Mh_iload_n 0 rfl dX12_isSign_6 ?_
    refine Mh_bipush (v := 62) dX12_isSign_7 (by decide) ?_
    refine Mh_icmp_eq (tgt := 18) dX12_isSign_9 (by decide) rfl (fun _ => ?_) (fun _ => ?_)
    · refine Mh_sub (lv' := []) [] rfl ?_
      exact t_X12_isSign_18 l E c0 s0  _ _
    · refine Mh_iload_n 0 rfl dX12_isSign_12 ?_
      refine Mh_bipush (v := 61) dX12_isSign_13 (by decide) ?_
      refine Mh_icmp_ne (tgt := 22) dX12_isSign_15 (by decide) rfl (fun _ => ?_) (fun _ => ?_)
      · refine Mh_iconst (v := 0) dX12_isSign_22 (by decide) ?_
        refine Mh_sub (lv' := []) [] rfl ?_
        exact t_X12_isSign_23 l E c0 s0 _ _ _
      · refine Mh_sub (lv' := []) [] rfl ?_
        exact t_X12_isSign_18 l E c0 s0  _ _
def F_X12_isSign (a0 : Int32) (m : Mm) (o : Prop) : Int32 × Mm × Prop := f_X12_isSign_0 a0 m o
theorem T_X12_isSign (l : Launch) (E : En) (a0 : Int32) (m : Mm) (o : Prop) : Mt wI l E yX12_isSign mi_X12_isSign [.int a0] m o (F_X12_isSign a0 m o) :=
  Mt_I (by decide) rfl rfl rfl (Nat.le_of_ble_eq_true rfl) rfl (.inr (.inl rfl)) (t_X12_isSign_0 l E _ _ _ _ _)
def f_X12_isValue_65 (y0 : Int32) (m : Mm) (o : Prop) : Int32 × Mm × Prop := (y0, m, o ∧ (y0 = 0 ∨ y0 = 1))
set_option maxRecDepth 10000 in
theorem t_X12_isValue_65 (l : Launch) (E : En) (c0 s0 : Nat) (y0 : Int32) (m : Mm) (o : Prop) : Mh wI l E mi_X12_isValue c0 s0 65 [] [.int y0] m o (f_X12_isValue_65 y0 m o) := by
  exact Mh_retZ dX12_isValue_65 (.inl rfl) rfl
def f_X12_isValue_60 (m : Mm) (o : Prop) : Int32 × Mm × Prop := f_X12_isValue_65 (1 : Int32) m o
set_option maxRecDepth 10000 in
theorem t_X12_isValue_60 (l : Launch) (E : En) (c0 s0 : Nat) (m : Mm) (o : Prop) : Mh wI l E mi_X12_isValue c0 s0 60 [] [] m o (f_X12_isValue_60  m o) := by
  refine Mh_iconst (v := 1) dX12_isValue_60 (by decide) ?_
  refine Mh_goto (tgt := 65) dX12_isValue_61 (by decide) ?_
  exact t_X12_isValue_65 l E c0 s0 _ _ _
def f_X12_isValue_0 (l0 : Int32) (m : Mm) (o : Prop) : Int32 × Mm × Prop := if l0 = (104 : Int32) then (f_X12_isValue_60  m o) else (if l0 = (118 : Int32) then (f_X12_isValue_60  m o) else (if l0 = (119 : Int32) then (f_X12_isValue_60  m o) else (if l0 = (120 : Int32) then (f_X12_isValue_60  m o) else (if l0 = (107 : Int32) then (f_X12_isValue_60  m o) else (if l0 = (115 : Int32) then (f_X12_isValue_60  m o) else (if l0 = (116 : Int32) then (f_X12_isValue_60  m o) else (if l0 = (100 : Int32) then (f_X12_isValue_60  m o) else (if l0 = (98 : Int32) then (f_X12_isValue_60  m o) else (if l0 = (117 : Int32) then (f_X12_isValue_60  m o) else (f_X12_isValue_65 (0 : Int32) m o))))))))))
set_option maxRecDepth 10000 in
theorem t_X12_isValue_0 (l : Launch) (E : En) (c0 s0 : Nat) (l0 : Int32) (m : Mm) (o : Prop) : Mh wI l E mi_X12_isValue c0 s0 0 [(0, .int l0)] [] m o (f_X12_isValue_0 l0 m o) := by
  refine Mh_iload_n 0 rfl dX12_isValue_0 ?_
  refine Mh_bipush (v := 104) dX12_isValue_1 (by decide) ?_
  refine Mh_icmp_eq (tgt := 60) dX12_isValue_3 (by decide) rfl (fun _ => ?_) (fun _ => ?_)
  · refine Mh_sub (lv' := []) [] rfl ?_
    exact t_X12_isValue_60 l E c0 s0  _ _
  · refine Mh_iload_n 0 rfl dX12_isValue_6 ?_
    refine Mh_bipush (v := 118) dX12_isValue_7 (by decide) ?_
    refine Mh_icmp_eq (tgt := 60) dX12_isValue_9 (by decide) rfl (fun _ => ?_) (fun _ => ?_)
    · refine Mh_sub (lv' := []) [] rfl ?_
      exact t_X12_isValue_60 l E c0 s0  _ _
    · refine Mh_iload_n 0 rfl dX12_isValue_12 ?_
      refine Mh_bipush (v := 119) dX12_isValue_13 (by decide) ?_
      refine Mh_icmp_eq (tgt := 60) dX12_isValue_15 (by decide) rfl (fun _ => ?_) (fun _ => ?_)
      · refine Mh_sub (lv' := []) [] rfl ?_
        exact t_X12_isValue_60 l E c0 s0  _ _
      · refine Mh_iload_n 0 rfl dX12_isValue_18 ?_
        refine Mh_bipush (v := 120) dX12_isValue_19 (by decide) ?_
        refine Mh_icmp_eq (tgt := 60) dX12_isValue_21 (by decide) rfl (fun _ => ?_) (fun _ => ?_)
        · refine Mh_sub (lv' := []) [] rfl ?_
          exact t_X12_isValue_60 l E c0 s0  _ _
        · refine Mh_iload_n 0 rfl dX12_isValue_24 ?_
          refine Mh_bipush (v := 107) dX12_isValue_25 (by decide) ?_
          refine Mh_icmp_eq (tgt := 60) dX12_isValue_27 (by decide) rfl (fun _ => ?_) (fun _ => ?_)
          · refine Mh_sub (lv' := []) [] rfl ?_
            exact t_X12_isValue_60 l E c0 s0  _ _
          · refine Mh_iload_n 0 rfl dX12_isValue_30 ?_
            refine Mh_bipush (v := 115) dX12_isValue_31 (by decide) ?_
            refine Mh_icmp_eq (tgt := 60) dX12_isValue_33 (by decide) rfl (fun _ => ?_) (fun _ => ?_)
            · refine Mh_sub (lv' := []) [] rfl ?_
              exact t_X12_isValue_60 l E c0 s0  _ _
            · refine Mh_iload_n 0 rfl dX12_isValue_36 ?_
              refine Mh_bipush (v := 116) dX12_isValue_37 (by decide) ?_
              refine Mh_icmp_eq (tgt := 60) dX12_isValue_39 (by decide) rfl (fun _ => ?_) (fun _ => ?_)
              · refine Mh_sub (lv' := []) [] rfl ?_
                exact t_X12_isValue_60 l E c0 s0  _ _
              · refine Mh_iload_n 0 rfl dX12_isValue_42 ?_
                refine Mh_bipush (v := 100) dX12_isValue_43 (by decide) ?_
                refine Mh_icmp_eq (tgt := 60) dX12_isValue_45 (by decide) rfl (fun _ => ?_) (fun _ => ?_)
                · refine Mh_sub (lv' := []) [] rfl ?_
                  exact t_X12_isValue_60 l E c0 s0  _ _
                · refine Mh_iload_n 0 rfl dX12_isValue_48 ?_
                  refine Mh_bipush (v := 98) dX12_isValue_49 (by decide) ?_
                  refine Mh_icmp_eq (tgt := 60) dX12_isValue_51 (by decide) rfl (fun _ => ?_) (fun _ => ?_)
                  · refine Mh_sub (lv' := []) [] rfl ?_
                    exact t_X12_isValue_60 l E c0 s0  _ _
                  · refine Mh_iload_n 0 rfl dX12_isValue_54 ?_
                    refine Mh_bipush (v := 117) dX12_isValue_55 (by decide) ?_
                    refine Mh_icmp_ne (tgt := 64) dX12_isValue_57 (by decide) rfl (fun _ => ?_) (fun _ => ?_)
                    · refine Mh_iconst (v := 0) dX12_isValue_64 (by decide) ?_
                      refine Mh_sub (lv' := []) [] rfl ?_
                      exact t_X12_isValue_65 l E c0 s0 _ _ _
                    · refine Mh_sub (lv' := []) [] rfl ?_
                      exact t_X12_isValue_60 l E c0 s0  _ _
def F_X12_isValue (a0 : Int32) (m : Mm) (o : Prop) : Int32 × Mm × Prop := f_X12_isValue_0 a0 m o
theorem T_X12_isValue (l : Launch) (E : En) (a0 : Int32) (m : Mm) (o : Prop) : Mt wI l E yX12_isValue mi_X12_isValue [.int a0] m o (F_X12_isValue a0 m o) :=
  Mt_I (by decide) rfl rfl rfl (Nat.le_of_ble_eq_true rfl) rfl (.inr (.inl rfl)) (t_X12_isValue_0 l E _ _ _ _ _)
def f_X12_seesDigit_14 (y0 : Int32) (m : Mm) (o : Prop) : Int32 × Mm × Prop := (y0, m, o ∧ (y0 = 0 ∨ y0 = 1))
set_option maxRecDepth 10000 in
theorem t_X12_seesDigit_14 (l : Launch) (E : En) (c0 s0 : Nat) (y0 : Int32) (m : Mm) (o : Prop) : Mh wI l E mi_X12_seesDigit c0 s0 14 [] [.int y0] m o (f_X12_seesDigit_14 y0 m o) := by
  exact Mh_retZ dX12_seesDigit_14 (.inl rfl) rfl
def f_X12_seesDigit_4 (y0 : Int32) (m : Mm) (o : Prop) : Int32 × Mm × Prop := bnd (F_X12_lies (Int32.toInt64 y0) (48 : Int64) (57 : Int64) m o) (fun v1 m1 o1 => f_X12_seesDigit_14 v1 m1 o1)
set_option maxRecDepth 10000 in
theorem t_X12_seesDigit_4 (l : Launch) (E : En) (c0 s0 : Nat) (y0 : Int32) (m : Mm) (o : Prop) : Mh wI l E mi_X12_seesDigit c0 s0 4 [] [.int y0] m o (f_X12_seesDigit_4 y0 m o) := by
  refine Mh_i2l dX12_seesDigit_4 ?_
  refine Mh_ldc2 (v := 48) gl_RX12_268 dX12_seesDigit_5 ?_
  refine Mh_ldc2 (v := 57) gl_RX12_270 dX12_seesDigit_8 ?_
  refine Mh_csI (N := mi_X12_lies) (as := [.long (Int32.toInt64 y0), .long (48 : Int64), .long (57 : Int64)]) (st := []) cg_yX12_lies (.inl ml_RX12_188) sv_yX12_lies pd_yX12_lies rfl (by decide) (Nat.le_of_ble_eq_true rfl) rfl dX12_seesDigit_11 (T_X12_lies l E _ _ _ _ _) rfl ?_
  exact t_X12_seesDigit_14 l E c0 s0 _ _ _
def f_X12_seesDigit_0 (l0 : Nat) (m : Mm) (o : Prop) : Int32 × Mm × Prop := bnd (F_X12_here l0 m (o ∧ gT m l0 = 12)) (fun v1 m1 o1 => f_X12_seesDigit_4 v1 m1 o1)
set_option maxRecDepth 10000 in
theorem t_X12_seesDigit_0 (l : Launch) (E : En) (c0 s0 : Nat) (l0 : Nat) (m : Mm) (o : Prop) : Mh wI l E mi_X12_seesDigit c0 s0 0 [(0, .ref l0)] [] m o (f_X12_seesDigit_0 l0 m o) := by
  refine Mh_aload_n 0 rfl dX12_seesDigit_0 ?_
  refine Mh_cvI (N := mi_X12_here) (q := l0) (ci := 11) (as := []) (st := []) (id) cg_yX12_here (by decide) rfl rfl ml_RX12_261 iv_yX12_here pd_yX12_here rfl (by decide) (Nat.le_of_ble_eq_true rfl) rfl dX12_seesDigit_1 (T_X12_here l E _ _ _) rfl ?_
  refine Mh_sub (lv' := []) [] rfl ?_
  exact t_X12_seesDigit_4 l E c0 s0 _ _ _
def F_X12_seesDigit (a0 : Nat) (m : Mm) (o : Prop) : Int32 × Mm × Prop := f_X12_seesDigit_0 a0 m o
theorem T_X12_seesDigit (l : Launch) (E : En) (a0 : Nat) (m : Mm) (o : Prop) : Mt wI l E yX12_seesDigit mi_X12_seesDigit [.ref a0] m o (F_X12_seesDigit a0 m o) :=
  Mt_I (by decide) rfl rfl rfl (Nat.le_of_ble_eq_true rfl) rfl (.inr (.inl rfl)) (t_X12_seesDigit_0 l E _ _ _ _ _)
def f_X12_reads_63 (k7 : Nat → Int32 → Int32 → Mm → Prop → Int32 × Mm × Prop) (l0 : Nat) (l1 : Int32) (l2 : Int32) (m : Mm) (o : Prop) : Int32 × Mm × Prop := k7 l0 l1 l2 m o
set_option maxRecDepth 10000 in
theorem t_X12_reads_63 (l : Launch) (E : En) (c0 s0 : Nat) (k7 : Nat → Int32 → Int32 → Mm → Prop → Int32 × Mm × Prop) (hk7 : ∀ (l0 : Nat) (l1 : Int32) (l2 : Int32) (m : Mm) (o : Prop), Mh wI l E mi_X12_reads c0 s0 7 [(0, .ref l0), (1, .int l1), (2, .int l2)] [] m o (k7 l0 l1 l2 m o)) (l0 : Nat) (l1 : Int32) (l2 : Int32) (m : Mm) (o : Prop) : Mh wI l E mi_X12_reads c0 s0 63 [(0, .ref l0), (1, .int l1), (2, .int l2)] [] m o (f_X12_reads_63 k7 l0 l1 l2 m o) := by
  refine Mh_goto (tgt := 7) dX12_reads_63 (by decide) ?_
  exact hk7 _ _ _ _ _
def f_X12_reads_48 (k7 : Nat → Int32 → Int32 → Mm → Prop → Int32 × Mm × Prop) (l0 : Nat) (l1 : Int32) (y1 : Int32) (y0 : Int32) (m : Mm) (o : Prop) : Int32 × Mm × Prop := f_X12_reads_63 k7 l0 l1 ((y0 + y1) - (48 : Int32)) (sI m l0 35 ((gI m l0 35) + (1 : Int32))) (o ∧ gT m l0 = 12)
set_option maxRecDepth 10000 in
theorem t_X12_reads_48 (l : Launch) (E : En) (c0 s0 : Nat) (k7 : Nat → Int32 → Int32 → Mm → Prop → Int32 × Mm × Prop) (hk7 : ∀ (l0 : Nat) (l1 : Int32) (l2 : Int32) (m : Mm) (o : Prop), Mh wI l E mi_X12_reads c0 s0 7 [(0, .ref l0), (1, .int l1), (2, .int l2)] [] m o (k7 l0 l1 l2 m o)) (l0 : Nat) (l1 : Int32) (y1 : Int32) (y0 : Int32) (m : Mm) (o : Prop) : Mh wI l E mi_X12_reads c0 s0 48 [(0, .ref l0), (1, .int l1)] [.int y1, .int y0] m o (f_X12_reads_48 k7 l0 l1 y1 y0 m o) := by
  refine Mh_iadd dX12_reads_48 ?_
  refine Mh_bipush (v := 48) dX12_reads_49 (by decide) ?_
  refine Mh_isub dX12_reads_51 ?_
  refine Mh_istore_n (lv' := [(2, .int ((y0 + y1) - (48 : Int32))), (0, .ref l0), (1, .int l1)]) dX12_reads_52 (Nat.le_of_ble_eq_true rfl) rfl ?_
  refine Mh_aload_n 1 rfl dX12_reads_53 ?_
  refine Mh_dup dX12_reads_54 rfl ?_
  refine Mh_gI fd_11_35 fl_RX12_235 dX12_reads_55 ?_
  refine Mh_iconst (v := 1) dX12_reads_58 (by decide) ?_
  refine Mh_iadd dX12_reads_59 ?_
  refine Mh_pI fd_11_35 ft_11 rfl fl_RX12_235 rfl dX12_reads_60 ?_
  refine Mh_ok (fun h => h.2) ?_
  refine Mh_sub (lv' := [(0, .ref l0), (1, .int l1), (2, .int ((y0 + y1) - (48 : Int32)))]) [1, 2, 0] rfl ?_
  exact t_X12_reads_63 l E c0 s0 k7 hk7 _ _ _ _ _
def f_X12_reads_40 (k7 : Nat → Int32 → Int32 → Mm → Prop → Int32 × Mm × Prop) (l0 : Nat) (l1 : Int32) (l2 : Int32) (m : Mm) (o : Prop) : Int32 × Mm × Prop := bnd (F_X12_here l0 m (o ∧ gT m l0 = 12)) (fun v1 m1 o1 => f_X12_reads_48 k7 l0 l1 v1 ((10 : Int32) * l2) m1 o1)
set_option maxRecDepth 10000 in
theorem t_X12_reads_40 (l : Launch) (E : En) (c0 s0 : Nat) (k7 : Nat → Int32 → Int32 → Mm → Prop → Int32 × Mm × Prop) (hk7 : ∀ (l0 : Nat) (l1 : Int32) (l2 : Int32) (m : Mm) (o : Prop), Mh wI l E mi_X12_reads c0 s0 7 [(0, .ref l0), (1, .int l1), (2, .int l2)] [] m o (k7 l0 l1 l2 m o)) (l0 : Nat) (l1 : Int32) (l2 : Int32) (m : Mm) (o : Prop) : Mh wI l E mi_X12_reads c0 s0 40 [(0, .ref l0), (1, .int l1), (2, .int l2)] [] m o (f_X12_reads_40 k7 l0 l1 l2 m o) := by
  refine Mh_bipush (v := 10) dX12_reads_40 (by decide) ?_
  refine Mh_iload_n 2 rfl dX12_reads_42 ?_
  refine Mh_imul dX12_reads_43 ?_
  refine Mh_aload_n 0 rfl dX12_reads_44 ?_
  refine Mh_cvI (N := mi_X12_here) (q := l0) (ci := 11) (as := []) (st := [.int ((10 : Int32) * l2)]) (id) cg_yX12_here (by decide) rfl rfl ml_RX12_261 iv_yX12_here pd_yX12_here rfl (by decide) (Nat.le_of_ble_eq_true rfl) rfl dX12_reads_45 (T_X12_here l E _ _ _) rfl ?_
  refine Mh_sub (lv' := [(0, .ref l0), (1, .int l1)]) [0, 1] rfl ?_
  exact t_X12_reads_48 l E c0 s0 k7 hk7 _ _ _ _ _ _
def f_X12_reads_66 (l2 : Int32) (m : Mm) (o : Prop) : Int32 × Mm × Prop := (l2, m, o)
set_option maxRecDepth 10000 in
theorem t_X12_reads_66 (l : Launch) (E : En) (c0 s0 : Nat) (l2 : Int32) (m : Mm) (o : Prop) : Mh wI l E mi_X12_reads c0 s0 66 [(2, .int l2)] [] m o (f_X12_reads_66 l2 m o) := by
  refine Mh_iload_n 0 rfl dX12_reads_66 ?_
  exact Mh_ret dX12_reads_67 rfl (fun _ => rfl) rfl
def f_X12_reads_18 (k7 : Nat → Int32 → Int32 → Mm → Prop → Int32 × Mm × Prop) (l0 : Nat) (l1 : Int32) (l2 : Int32) (y0 : Int32) (m : Mm) (o : Prop) : Int32 × Mm × Prop := if y0 = 0 then (f_X12_reads_66 l2 m o) else (if (gI m l0 35) = (l1 + (5 : Int32)) then (bnd (F_X12_wrongs l0 (2 : Int32) (gI m l0 35) m (o ∧ gT m l0 = 12)) (fun _ m1 o1 => f_X12_reads_40 k7 l0 l1 l2 m1 o1)) else (f_X12_reads_40 k7 l0 l1 l2 m (o ∧ gT m l0 = 12)))
set_option maxRecDepth 10000 in
theorem t_X12_reads_18 (l : Launch) (E : En) (c0 s0 : Nat) (k7 : Nat → Int32 → Int32 → Mm → Prop → Int32 × Mm × Prop) (hk7 : ∀ (l0 : Nat) (l1 : Int32) (l2 : Int32) (m : Mm) (o : Prop), Mh wI l E mi_X12_reads c0 s0 7 [(0, .ref l0), (1, .int l1), (2, .int l2)] [] m o (k7 l0 l1 l2 m o)) (l0 : Nat) (l1 : Int32) (l2 : Int32) (y0 : Int32) (m : Mm) (o : Prop) : Mh wI l E mi_X12_reads c0 s0 18 [(0, .ref l0), (1, .int l1), (2, .int l2)] [.int y0] m o (f_X12_reads_18 k7 l0 l1 l2 y0 m o) := by
  refine Mh_if_eq (tgt := 66) dX12_reads_18 (by decide) rfl (fun _ => ?_) (fun _ => ?_)
  · refine Mh_sub (lv' := [(2, .int l2)]) [2] rfl ?_
    exact t_X12_reads_66 l E c0 s0 _ _ _
  · refine Mh_aload_n 0 rfl dX12_reads_21 ?_
    refine Mh_gI fd_11_35 fl_RX12_235 dX12_reads_22 ?_
    refine Mh_iload_n 1 rfl dX12_reads_25 ?_
    refine Mh_iconst (v := 5) dX12_reads_26 (by decide) ?_
    refine Mh_iadd dX12_reads_27 ?_
    refine Mh_icmp_ne (tgt := 40) dX12_reads_28 (by decide) rfl (fun _ => ?_) (fun _ => ?_)
    · exact t_X12_reads_40 l E c0 s0 k7 hk7 _ _ _ _ _
    · refine Mh_aload_n 0 rfl dX12_reads_31 ?_
      refine Mh_iconst (v := 2) dX12_reads_32 (by decide) ?_
      refine Mh_aload_n 0 rfl dX12_reads_33 ?_
      refine Mh_gI fd_11_35 fl_RX12_235 dX12_reads_34 ?_
      refine Mh_ok (fun h => h.2) ?_
      refine Mh_cvU (N := mi_X12_wrongs) (q := l0) (ci := 11) (as := [.int (2 : Int32), .int (gI m l0 35)]) (st := []) (fun h => ⟨h, (fun h => h.2) h⟩) cg_yX12_wrongs (by decide) rfl rfl ml_RX12_257 iv_yX12_wrongs pd_yX12_wrongs rfl (by decide) (Nat.le_of_ble_eq_true rfl) rfl dX12_reads_37 (T_X12_wrongs l E _ _ _ _ _) rfl ?_
      exact t_X12_reads_40 l E c0 s0 k7 hk7 _ _ _ _ _
def f_X12_reads_11 (k7 : Nat → Int32 → Int32 → Mm → Prop → Int32 × Mm × Prop) (l0 : Nat) (l1 : Int32) (l2 : Int32) (y0 : Int32) (m : Mm) (o : Prop) : Int32 × Mm × Prop := if y0 = 0 then (f_X12_reads_66 l2 m o) else (bnd (F_X12_seesDigit l0 m (o ∧ gT m l0 = 12)) (fun v1 m1 o1 => f_X12_reads_18 k7 l0 l1 l2 v1 m1 o1))
set_option maxRecDepth 10000 in
theorem t_X12_reads_11 (l : Launch) (E : En) (c0 s0 : Nat) (k7 : Nat → Int32 → Int32 → Mm → Prop → Int32 × Mm × Prop) (hk7 : ∀ (l0 : Nat) (l1 : Int32) (l2 : Int32) (m : Mm) (o : Prop), Mh wI l E mi_X12_reads c0 s0 7 [(0, .ref l0), (1, .int l1), (2, .int l2)] [] m o (k7 l0 l1 l2 m o)) (l0 : Nat) (l1 : Int32) (l2 : Int32) (y0 : Int32) (m : Mm) (o : Prop) : Mh wI l E mi_X12_reads c0 s0 11 [(0, .ref l0), (1, .int l1), (2, .int l2)] [.int y0] m o (f_X12_reads_11 k7 l0 l1 l2 y0 m o) := by
  refine Mh_if_eq (tgt := 66) dX12_reads_11 (by decide) rfl (fun _ => ?_) (fun _ => ?_)
  · refine Mh_sub (lv' := [(2, .int l2)]) [2] rfl ?_
    exact t_X12_reads_66 l E c0 s0 _ _ _
  · refine Mh_aload_n 0 rfl dX12_reads_14 ?_
    refine Mh_cvI (N := mi_X12_seesDigit) (q := l0) (ci := 11) (as := []) (st := []) (id) cg_yX12_seesDigit (by decide) rfl rfl ml_RX12_272 iv_yX12_seesDigit pd_yX12_seesDigit rfl (by decide) (Nat.le_of_ble_eq_true rfl) rfl dX12_reads_15 (T_X12_seesDigit l E _ _ _) rfl ?_
    exact t_X12_reads_18 l E c0 s0 k7 hk7 _ _ _ _ _ _
def f_X12_reads_7b (k7 : Nat → Int32 → Int32 → Mm → Prop → Int32 × Mm × Prop) (l0 : Nat) (l1 : Int32) (l2 : Int32) (m : Mm) (o : Prop) : Int32 × Mm × Prop := bnd (F_X12_isGood l0 m (o ∧ gT m l0 = 12)) (fun v1 m1 o1 => f_X12_reads_11 k7 l0 l1 l2 v1 m1 o1)
set_option maxRecDepth 10000 in
theorem t_X12_reads_7b (l : Launch) (E : En) (c0 s0 : Nat) (k7 : Nat → Int32 → Int32 → Mm → Prop → Int32 × Mm × Prop) (hk7 : ∀ (l0 : Nat) (l1 : Int32) (l2 : Int32) (m : Mm) (o : Prop), Mh wI l E mi_X12_reads c0 s0 7 [(0, .ref l0), (1, .int l1), (2, .int l2)] [] m o (k7 l0 l1 l2 m o)) (l0 : Nat) (l1 : Int32) (l2 : Int32) (m : Mm) (o : Prop) : Mh wI l E mi_X12_reads c0 s0 7 [(0, .ref l0), (1, .int l1), (2, .int l2)] [] m o (f_X12_reads_7b k7 l0 l1 l2 m o) := by
  refine Mh_aload_n 0 rfl dX12_reads_7 ?_
  refine Mh_cvI (N := mi_X12_isGood) (q := l0) (ci := 11) (as := []) (st := []) (id) cg_yX12_isGood (by decide) rfl rfl ml_RX12_244 iv_yX12_isGood pd_yX12_isGood rfl (by decide) (Nat.le_of_ble_eq_true rfl) rfl dX12_reads_8 (T_X12_isGood l E _ _ _) rfl ?_
  exact t_X12_reads_11 l E c0 s0 k7 hk7 _ _ _ _ _ _
def f_X12_reads_7 : Nat → Nat → Int32 → Int32 → Mm → Prop → Int32 × Mm × Prop
  | 0, _, _, _, m, _ => (0, m, False)
  | n + 1, l0, l1, l2, m, o => f_X12_reads_7b (f_X12_reads_7 n) l0 l1 l2 m o
theorem t_X12_reads_7 (l : Launch) (E : En) (c0 s0 : Nat) : ∀ (n : Nat) (l0 : Nat) (l1 : Int32) (l2 : Int32) (m : Mm) (o : Prop), Mh wI l E mi_X12_reads c0 s0 7 [(0, .ref l0), (1, .int l1), (2, .int l2)] [] m o (f_X12_reads_7 n l0 l1 l2 m o)
  | 0, _, _, _, _, _ => Mh_out rfl
  | n + 1, l0, l1, l2, m, o => t_X12_reads_7b l E c0 s0 (f_X12_reads_7 n) (t_X12_reads_7 l E c0 s0 n) l0 l1 l2 m o
def f_X12_reads_0 (l0 : Nat) (m : Mm) (o : Prop) : Int32 × Mm × Prop := f_X12_reads_7 1000 l0 (gI m l0 35) (0 : Int32) m (o ∧ gT m l0 = 12)
set_option maxRecDepth 10000 in
theorem t_X12_reads_0 (l : Launch) (E : En) (c0 s0 : Nat) (l0 : Nat) (m : Mm) (o : Prop) : Mh wI l E mi_X12_reads c0 s0 0 [(0, .ref l0)] [] m o (f_X12_reads_0 l0 m o) := by
  refine Mh_aload_n 0 rfl dX12_reads_0 ?_
  refine Mh_gI fd_11_35 fl_RX12_235 dX12_reads_1 ?_
  refine Mh_istore_n (lv' := [(1, .int (gI m l0 35)), (0, .ref l0)]) dX12_reads_4 (Nat.le_of_ble_eq_true rfl) rfl ?_
  refine Mh_iconst (v := 0) dX12_reads_5 (by decide) ?_
  refine Mh_istore_n (lv' := [(2, .int (0 : Int32)), (1, .int (gI m l0 35)), (0, .ref l0)]) dX12_reads_6 (Nat.le_of_ble_eq_true rfl) rfl ?_
  refine Mh_sub (lv' := [(0, .ref l0), (1, .int (gI m l0 35)), (2, .int (0 : Int32))]) [2, 1, 0] rfl ?_
  exact t_X12_reads_7 l E c0 s0 _ _ _ _ _ _
def F_X12_reads (a0 : Nat) (m : Mm) (o : Prop) : Int32 × Mm × Prop := f_X12_reads_0 a0 m o
theorem T_X12_reads (l : Launch) (E : En) (a0 : Nat) (m : Mm) (o : Prop) : Mt wI l E yX12_reads mi_X12_reads [.ref a0] m o (F_X12_reads a0 m o) :=
  Mt_I (by decide) rfl rfl rfl (Nat.le_of_ble_eq_true rfl) rfl (.inl rfl) (t_X12_reads_0 l E _ _ _ _ _)
