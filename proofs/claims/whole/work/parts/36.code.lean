def f_X12_divisor_6b (k6 : Int64 → Int64 → Mm → Prop → Int64 × Mm × Prop) (l4 : Int64) (l6 : Int64) (m : Mm) (o : Prop) : Int64 × Mm × Prop := if (lg_cmp l6 (0 : Int64)) = 0 then (l4, m, o) else (k6 l6 (lrm l4 l6) m (o ∧ ¬ l6 = 0))
set_option maxRecDepth 10000 in
theorem t_X12_divisor_6b (l : Launch) (E : En) (c0 s0 : Nat) (k6 : Int64 → Int64 → Mm → Prop → Int64 × Mm × Prop) (hk6 : ∀ (l4 : Int64) (l6 : Int64) (m : Mm) (o : Prop), Mh wJ l E mi_X12_divisor c0 s0 6 [(4, .long l4), (6, .long l6)] [] m o (k6 l4 l6 m o)) (l4 : Int64) (l6 : Int64) (m : Mm) (o : Prop) : Mh wJ l E mi_X12_divisor c0 s0 6 [(4, .long l4), (6, .long l6)] [] m o (f_X12_divisor_6b k6 l4 l6 m o) := by
  refine Mh_lload 1 rfl dX12_divisor_6 ?_
  refine Mh_lconst (v := 0) dX12_divisor_8 (by decide) ?_
  refine Mh_lcmp dX12_divisor_9 ?_
  refine Mh_if_eq (tgt := 31) dX12_divisor_10 (by decide) rfl (fun _ => ?_) (fun _ => ?_)
  · refine Mh_lload 0 rfl dX12_divisor_31 ?_
    exact Mh_ret dX12_divisor_33 rfl (fun _ => rfl) rfl
  · refine Mh_lload 0 rfl dX12_divisor_13 ?_
    refine Mh_lload 1 rfl dX12_divisor_15 ?_
    refine Mh_lrem dX12_divisor_17 ?_
    refine Mh_lstore (lv' := [(8, .long (lrm l4 l6)), (4, .long l4), (6, .long l6)]) dX12_divisor_18 (Nat.le_of_ble_eq_true rfl) rfl ?_
    refine Mh_lload 2 rfl dX12_divisor_20 ?_
    refine Mh_lstore (lv' := [(4, .long l6), (8, .long (lrm l4 l6)), (6, .long l6)]) dX12_divisor_22 (Nat.le_of_ble_eq_true rfl) rfl ?_
    refine Mh_lload 1 rfl dX12_divisor_24 ?_
    refine Mh_lstore (lv' := [(6, .long (lrm l4 l6)), (4, .long l6), (8, .long (lrm l4 l6))]) dX12_divisor_26 (Nat.le_of_ble_eq_true rfl) rfl ?_
    refine Mh_goto (tgt := 6) dX12_divisor_28 (by decide) ?_
    refine Mh_sub (lv' := [(4, .long l6), (6, .long (lrm l4 l6))]) [1, 0] rfl ?_
    exact hk6 _ _ _ _
def f_X12_divisor_6 : Nat → Int64 → Int64 → Mm → Prop → Int64 × Mm × Prop
  | 0, _, _, m, _ => (0, m, False)
  | n + 1, l4, l6, m, o => f_X12_divisor_6b (f_X12_divisor_6 n) l4 l6 m o
theorem t_X12_divisor_6 (l : Launch) (E : En) (c0 s0 : Nat) : ∀ (n : Nat) (l4 : Int64) (l6 : Int64) (m : Mm) (o : Prop), Mh wJ l E mi_X12_divisor c0 s0 6 [(4, .long l4), (6, .long l6)] [] m o (f_X12_divisor_6 n l4 l6 m o)
  | 0, _, _, _, _ => Mh_out rfl
  | n + 1, l4, l6, m, o => t_X12_divisor_6b l E c0 s0 (f_X12_divisor_6 n) (t_X12_divisor_6 l E c0 s0 n) l4 l6 m o
def f_X12_divisor_0 (l0 : Int64) (l2 : Int64) (m : Mm) (o : Prop) : Int64 × Mm × Prop := f_X12_divisor_6 1000 l0 l2 m o
set_option maxRecDepth 10000 in
theorem t_X12_divisor_0 (l : Launch) (E : En) (c0 s0 : Nat) (l0 : Int64) (l2 : Int64) (m : Mm) (o : Prop) : Mh wJ l E mi_X12_divisor c0 s0 0 [(0, .long l0), (2, .long l2)] [] m o (f_X12_divisor_0 l0 l2 m o) := by
  refine Mh_lload_n 0 rfl dX12_divisor_0 ?_
  refine Mh_lstore (lv' := [(4, .long l0), (0, .long l0), (2, .long l2)]) dX12_divisor_1 (Nat.le_of_ble_eq_true rfl) rfl ?_
  refine Mh_lload_n 2 rfl dX12_divisor_3 ?_
  refine Mh_lstore (lv' := [(6, .long l2), (4, .long l0), (0, .long l0), (2, .long l2)]) dX12_divisor_4 (Nat.le_of_ble_eq_true rfl) rfl ?_
  refine Mh_sub (lv' := [(4, .long l0), (6, .long l2)]) [1, 0] rfl ?_
  exact t_X12_divisor_6 l E c0 s0 _ _ _ _ _
def F_X12_divisor (a0 : Int64) (a1 : Int64) (m : Mm) (o : Prop) : Int64 × Mm × Prop := f_X12_divisor_0 a0 a1 m o
theorem T_X12_divisor (l : Launch) (E : En) (a0 : Int64) (a1 : Int64) (m : Mm) (o : Prop) : Mt wJ l E yX12_divisor mi_X12_divisor [.long a0, .long a1] m o (F_X12_divisor a0 a1 m o) :=
  Mt_J (by decide) rfl rfl rfl (Nat.le_of_ble_eq_true rfl) rfl (t_X12_divisor_0 l E _ _ _ _ _ _)
def f_X12_lies_18 (y0 : Int32) (m : Mm) (o : Prop) : Int32 × Mm × Prop := (y0, m, o ∧ (y0 = 0 ∨ y0 = 1))
set_option maxRecDepth 10000 in
theorem t_X12_lies_18 (l : Launch) (E : En) (c0 s0 : Nat) (y0 : Int32) (m : Mm) (o : Prop) : Mh wI l E mi_X12_lies c0 s0 18 [] [.int y0] m o (f_X12_lies_18 y0 m o) := by
  exact Mh_retZ dX12_lies_18 (.inl rfl) rfl
def f_X12_lies_17 (m : Mm) (o : Prop) : Int32 × Mm × Prop := f_X12_lies_18 (0 : Int32) m o
set_option maxRecDepth 10000 in
theorem t_X12_lies_17 (l : Launch) (E : En) (c0 s0 : Nat) (m : Mm) (o : Prop) : Mh wI l E mi_X12_lies c0 s0 17 [] [] m o (f_X12_lies_17  m o) := by
  refine Mh_iconst (v := 0) dX12_lies_17 (by decide) ?_
  exact t_X12_lies_18 l E c0 s0 _ _ _
def f_X12_lies_0 (l0 : Int64) (l2 : Int64) (l4 : Int64) (m : Mm) (o : Prop) : Int32 × Mm × Prop := if (lg_cmp l0 l2) < 0 then (f_X12_lies_17  m o) else (if 0 < (lg_cmp l0 l4) then (f_X12_lies_17  m o) else (f_X12_lies_18 (1 : Int32) m o))
set_option maxRecDepth 10000 in
theorem t_X12_lies_0 (l : Launch) (E : En) (c0 s0 : Nat) (l0 : Int64) (l2 : Int64) (l4 : Int64) (m : Mm) (o : Prop) : Mh wI l E mi_X12_lies c0 s0 0 [(0, .long l0), (2, .long l2), (4, .long l4)] [] m o (f_X12_lies_0 l0 l2 l4 m o) := by
  refine Mh_lload_n 0 rfl dX12_lies_0 ?_
  refine Mh_lload_n 1 rfl dX12_lies_1 ?_
  refine Mh_lcmp dX12_lies_2 ?_
  refine Mh_if_lt (tgt := 17) dX12_lies_3 (by decide) rfl (fun _ => ?_) (fun _ => ?_)
  · refine Mh_sub (lv' := []) [] rfl ?_
    exact t_X12_lies_17 l E c0 s0  _ _
  · refine Mh_lload_n 0 rfl dX12_lies_6 ?_
    refine Mh_lload 2 rfl dX12_lies_7 ?_
    refine Mh_lcmp dX12_lies_9 ?_
    refine Mh_if_gt (tgt := 17) dX12_lies_10 (by decide) rfl (fun _ => ?_) (fun _ => ?_)
    · refine Mh_sub (lv' := []) [] rfl ?_
      exact t_X12_lies_17 l E c0 s0  _ _
    · refine Mh_iconst (v := 1) dX12_lies_13 (by decide) ?_
      refine Mh_goto (tgt := 18) dX12_lies_14 (by decide) ?_
      refine Mh_sub (lv' := []) [] rfl ?_
      exact t_X12_lies_18 l E c0 s0 _ _ _
def F_X12_lies (a0 : Int64) (a1 : Int64) (a2 : Int64) (m : Mm) (o : Prop) : Int32 × Mm × Prop := f_X12_lies_0 a0 a1 a2 m o
theorem T_X12_lies (l : Launch) (E : En) (a0 : Int64) (a1 : Int64) (a2 : Int64) (m : Mm) (o : Prop) : Mt wI l E yX12_lies mi_X12_lies [.long a0, .long a1, .long a2] m o (F_X12_lies a0 a1 a2 m o) :=
  Mt_I (by decide) rfl rfl rfl (Nat.le_of_ble_eq_true rfl) rfl (.inr (.inl rfl)) (t_X12_lies_0 l E _ _ _ _ _ _ _)
def f_X12_isStack_13 (y0 : Int32) (m : Mm) (o : Prop) : Int32 × Mm × Prop := (y0, m, o ∧ (y0 = 0 ∨ y0 = 1))
set_option maxRecDepth 10000 in
theorem t_X12_isStack_13 (l : Launch) (E : En) (c0 s0 : Nat) (y0 : Int32) (m : Mm) (o : Prop) : Mh wI l E mi_X12_isStack c0 s0 13 [] [.int y0] m o (f_X12_isStack_13 y0 m o) := by
  exact Mh_retZ dX12_isStack_13 (.inl rfl) rfl
def f_X12_isStack_0 (l0 : Nat) (l1 : Int32) (m : Mm) (o : Prop) : Int32 × Mm × Prop := bnd (F_X12_lies (Int32.toInt64 l1) (0 : Int64) (Int32.toInt64 ((gI m l0 2) - (1 : Int32))) m (o ∧ gT m l0 = 12)) (fun v1 m1 o1 => f_X12_isStack_13 v1 m1 o1)
set_option maxRecDepth 10000 in
theorem t_X12_isStack_0 (l : Launch) (E : En) (c0 s0 : Nat) (l0 : Nat) (l1 : Int32) (m : Mm) (o : Prop) : Mh wI l E mi_X12_isStack c0 s0 0 [(0, .ref l0), (1, .int l1)] [] m o (f_X12_isStack_0 l0 l1 m o) := by
  refine Mh_iload_n 1 rfl dX12_isStack_0 ?_
  refine Mh_i2l dX12_isStack_1 ?_
  refine Mh_lconst (v := 0) dX12_isStack_2 (by decide) ?_
  refine Mh_aload_n 0 rfl dX12_isStack_3 ?_
  refine Mh_gI fd_11_2 fl_RX12_192 dX12_isStack_4 ?_
  refine Mh_iconst (v := 1) dX12_isStack_7 (by decide) ?_
  refine Mh_isub dX12_isStack_8 ?_
  refine Mh_i2l dX12_isStack_9 ?_
  refine Mh_csI (N := mi_X12_lies) (as := [.long (Int32.toInt64 l1), .long (0 : Int64), .long (Int32.toInt64 ((gI m l0 2) - (1 : Int32)))]) (st := []) cg_yX12_lies (.inl ml_RX12_188) sv_yX12_lies pd_yX12_lies rfl (by decide) (Nat.le_of_ble_eq_true rfl) rfl dX12_isStack_10 (T_X12_lies l E _ _ _ _ _) rfl ?_
  refine Mh_sub (lv' := []) [] rfl ?_
  exact t_X12_isStack_13 l E c0 s0 _ _ _
def F_X12_isStack (a0 : Nat) (a1 : Int32) (m : Mm) (o : Prop) : Int32 × Mm × Prop := f_X12_isStack_0 a0 a1 m o
theorem T_X12_isStack (l : Launch) (E : En) (a0 : Nat) (a1 : Int32) (m : Mm) (o : Prop) : Mt wI l E yX12_isStack mi_X12_isStack [.ref a0, .int a1] m o (F_X12_isStack a0 a1 m o) :=
  Mt_I (by decide) rfl rfl rfl (Nat.le_of_ble_eq_true rfl) rfl (.inr (.inl rfl)) (t_X12_isStack_0 l E _ _ _ _ _ _)
def f_X12_isThere_22 (y0 : Int32) (m : Mm) (o : Prop) : Int32 × Mm × Prop := (y0, m, o ∧ (y0 = 0 ∨ y0 = 1))
set_option maxRecDepth 10000 in
theorem t_X12_isThere_22 (l : Launch) (E : En) (c0 s0 : Nat) (y0 : Int32) (m : Mm) (o : Prop) : Mh wI l E mi_X12_isThere c0 s0 22 [] [.int y0] m o (f_X12_isThere_22 y0 m o) := by
  exact Mh_retZ dX12_isThere_22 (.inl rfl) rfl
def f_X12_isThere_21 (m : Mm) (o : Prop) : Int32 × Mm × Prop := f_X12_isThere_22 (0 : Int32) m o
set_option maxRecDepth 10000 in
theorem t_X12_isThere_21 (l : Launch) (E : En) (c0 s0 : Nat) (m : Mm) (o : Prop) : Mh wI l E mi_X12_isThere c0 s0 21 [] [] m o (f_X12_isThere_21  m o) := by
  refine Mh_iconst (v := 0) dX12_isThere_21 (by decide) ?_
  exact t_X12_isThere_22 l E c0 s0 _ _ _
def f_X12_isThere_5 (l0 : Nat) (l1 : Int32) (y0 : Int32) (m : Mm) (o : Prop) : Int32 × Mm × Prop := if y0 = 0 then (f_X12_isThere_21  m o) else (if (gI m (gR m l0 14) (ix l1)) = 0 then (f_X12_isThere_21  m ((o ∧ (gT m l0 = 12 ∧ gR m l0 14 ≠ 0)) ∧ (gT m (gR m l0 14) = 22 ∧ vp_in l1 (gN m (gR m l0 14))))) else (f_X12_isThere_22 (1 : Int32) m ((o ∧ (gT m l0 = 12 ∧ gR m l0 14 ≠ 0)) ∧ (gT m (gR m l0 14) = 22 ∧ vp_in l1 (gN m (gR m l0 14))))))
set_option maxRecDepth 10000 in
theorem t_X12_isThere_5 (l : Launch) (E : En) (c0 s0 : Nat) (l0 : Nat) (l1 : Int32) (y0 : Int32) (m : Mm) (o : Prop) : Mh wI l E mi_X12_isThere c0 s0 5 [(0, .ref l0), (1, .int l1)] [.int y0] m o (f_X12_isThere_5 l0 l1 y0 m o) := by
  refine Mh_if_eq (tgt := 21) dX12_isThere_5 (by decide) rfl (fun _ => ?_) (fun _ => ?_)
  · refine Mh_sub (lv' := []) [] rfl ?_
    exact t_X12_isThere_21 l E c0 s0  _ _
  · refine Mh_aload_n 0 rfl dX12_isThere_8 ?_
    refine Mh_gR fd_11_14 fl_RX12_39 dX12_isThere_9 ?_
    refine Mh_iload_n 1 rfl dX12_isThere_12 ?_
    refine Mh_zal dX12_isThere_13 ?_
    refine Mh_if_eq (tgt := 21) dX12_isThere_14 (by decide) rfl (fun _ => ?_) (fun _ => ?_)
    · refine Mh_sub (lv' := []) [] rfl ?_
      exact t_X12_isThere_21 l E c0 s0  _ _
    · refine Mh_iconst (v := 1) dX12_isThere_17 (by decide) ?_
      refine Mh_goto (tgt := 22) dX12_isThere_18 (by decide) ?_
      refine Mh_sub (lv' := []) [] rfl ?_
      exact t_X12_isThere_22 l E c0 s0 _ _ _
def f_X12_isThere_0 (l0 : Nat) (l1 : Int32) (m : Mm) (o : Prop) : Int32 × Mm × Prop := bnd (F_X12_isStack l0 l1 m (o ∧ gT m l0 = 12)) (fun v1 m1 o1 => f_X12_isThere_5 l0 l1 v1 m1 o1)
set_option maxRecDepth 10000 in
theorem t_X12_isThere_0 (l : Launch) (E : En) (c0 s0 : Nat) (l0 : Nat) (l1 : Int32) (m : Mm) (o : Prop) : Mh wI l E mi_X12_isThere c0 s0 0 [(0, .ref l0), (1, .int l1)] [] m o (f_X12_isThere_0 l0 l1 m o) := by
  refine Mh_aload_n 0 rfl dX12_isThere_0 ?_
  refine Mh_iload_n 1 rfl dX12_isThere_1 ?_
  refine Mh_cvI (N := mi_X12_isStack) (q := l0) (ci := 11) (as := [.int l1]) (st := []) (id) cg_yX12_isStack (by decide) rfl rfl ml_RX12_195 iv_yX12_isStack pd_yX12_isStack rfl (by decide) (Nat.le_of_ble_eq_true rfl) rfl dX12_isThere_2 (T_X12_isStack l E _ _ _ _) rfl ?_
  exact t_X12_isThere_5 l E c0 s0 _ _ _ _ _
def F_X12_isThere (a0 : Nat) (a1 : Int32) (m : Mm) (o : Prop) : Int32 × Mm × Prop := f_X12_isThere_0 a0 a1 m o
theorem T_X12_isThere (l : Launch) (E : En) (a0 : Nat) (a1 : Int32) (m : Mm) (o : Prop) : Mt wI l E yX12_isThere mi_X12_isThere [.ref a0, .int a1] m o (F_X12_isThere a0 a1 m o) :=
  Mt_I (by decide) rfl rfl rfl (Nat.le_of_ble_eq_true rfl) rfl (.inr (.inl rfl)) (t_X12_isThere_0 l E _ _ _ _ _ _)
def f_X12_burns_43 (m : Mm) (o : Prop) : Int64 × Mm × Prop := ((-1 : Int64), m, o)
set_option maxRecDepth 10000 in
theorem t_X12_burns_43 (l : Launch) (E : En) (c0 s0 : Nat) (m : Mm) (o : Prop) : Mh wJ l E mi_X12_burns c0 s0 43 [] [] m o (f_X12_burns_43  m o) := by
  refine Mh_ldc2 (v := (-1)) gl_RX12_431 dX12_burns_43 ?_
  exact Mh_ret dX12_burns_46 rfl (fun _ => rfl) rfl
def f_X12_burns_81 (k50 : Nat → Int32 → Int32 → Int32 → Int32 → Int32 → Mm → Prop → Int64 × Mm × Prop) (l0 : Nat) (l1 : Int32) (l2 : Int32) (l3 : Int32) (l4 : Int32) (l5 : Int32) (m : Mm) (o : Prop) : Int64 × Mm × Prop := k50 l0 l1 l2 l3 l4 (l5 + 1) m o
set_option maxRecDepth 10000 in
theorem t_X12_burns_81 (l : Launch) (E : En) (c0 s0 : Nat) (k50 : Nat → Int32 → Int32 → Int32 → Int32 → Int32 → Mm → Prop → Int64 × Mm × Prop) (hk50 : ∀ (l0 : Nat) (l1 : Int32) (l2 : Int32) (l3 : Int32) (l4 : Int32) (l5 : Int32) (m : Mm) (o : Prop), Mh wJ l E mi_X12_burns c0 s0 50 [(0, .ref l0), (1, .int l1), (2, .int l2), (3, .int l3), (4, .int l4), (5, .int l5)] [] m o (k50 l0 l1 l2 l3 l4 l5 m o)) (l0 : Nat) (l1 : Int32) (l2 : Int32) (l3 : Int32) (l4 : Int32) (l5 : Int32) (m : Mm) (o : Prop) : Mh wJ l E mi_X12_burns c0 s0 81 [(0, .ref l0), (1, .int l1), (2, .int l2), (3, .int l3), (4, .int l4), (5, .int l5)] [] m o (f_X12_burns_81 k50 l0 l1 l2 l3 l4 l5 m o) := by
  refine Mh_iinc (v := l5 + 1) (lv' := [(5, .int (l5 + 1)), (0, .ref l0), (1, .int l1), (2, .int l2), (3, .int l3), (4, .int l4)]) 5 dX12_burns_81 rfl rfl (Nat.le_of_ble_eq_true rfl) rfl ?_
  refine Mh_goto (tgt := 50) dX12_burns_84 (by decide) ?_
  refine Mh_sub (lv' := [(0, .ref l0), (1, .int l1), (2, .int l2), (3, .int l3), (4, .int l4), (5, .int (l5 + 1))]) [1, 2, 3, 4, 5, 0] rfl ?_
  exact hk50 _ _ _ _ _ _ _ _
def f_X12_burns_80 (k50 : Nat → Int32 → Int32 → Int32 → Int32 → Int32 → Mm → Prop → Int64 × Mm × Prop) (l0 : Nat) (l1 : Int32) (l2 : Int32) (l3 : Int32) (l4 : Int32) (l5 : Int32) (y2 : Int64) (y1 : Int32) (y0 : Nat) (m : Mm) (o : Prop) : Int64 × Mm × Prop := f_X12_burns_81 k50 l0 l1 l2 l3 l4 l5 (sL m y0 (ix y1) y2) (o ∧ (gT m y0 = 21 ∧ vp_in y1 (gN m y0)))
set_option maxRecDepth 10000 in
theorem t_X12_burns_80 (l : Launch) (E : En) (c0 s0 : Nat) (k50 : Nat → Int32 → Int32 → Int32 → Int32 → Int32 → Mm → Prop → Int64 × Mm × Prop) (hk50 : ∀ (l0 : Nat) (l1 : Int32) (l2 : Int32) (l3 : Int32) (l4 : Int32) (l5 : Int32) (m : Mm) (o : Prop), Mh wJ l E mi_X12_burns c0 s0 50 [(0, .ref l0), (1, .int l1), (2, .int l2), (3, .int l3), (4, .int l4), (5, .int l5)] [] m o (k50 l0 l1 l2 l3 l4 l5 m o)) (l0 : Nat) (l1 : Int32) (l2 : Int32) (l3 : Int32) (l4 : Int32) (l5 : Int32) (y2 : Int64) (y1 : Int32) (y0 : Nat) (m : Mm) (o : Prop) : Mh wJ l E mi_X12_burns c0 s0 80 [(0, .ref l0), (1, .int l1), (2, .int l2), (3, .int l3), (4, .int l4), (5, .int l5)] [.long y2, .int y1, .ref y0] m o (f_X12_burns_80 k50 l0 l1 l2 l3 l4 l5 y2 y1 y0 m o) := by
  refine Mh_las dX12_burns_80 ?_
  exact t_X12_burns_81 l E c0 s0 k50 hk50 _ _ _ _ _ _ _ _
def f_X12_burns_118 (k93 : Nat → Int32 → Int32 → Int32 → Int64 → Int32 → Mm → Prop → Int64 × Mm × Prop) (k102 : Nat → Int32 → Int32 → Int32 → Int64 → Int32 → Int32 → Mm → Prop → Int64 × Mm × Prop) (l0 : Nat) (l2 : Int32) (l3 : Int32) (l4 : Int32) (l5 : Int64) (l7 : Int32) (l8 : Int32) (m : Mm) (o : Prop) : Int64 × Mm × Prop := k102 l0 l2 l3 l4 l5 l7 (l8 + 1) m o
set_option maxRecDepth 10000 in
theorem t_X12_burns_118 (l : Launch) (E : En) (c0 s0 : Nat) (k93 : Nat → Int32 → Int32 → Int32 → Int64 → Int32 → Mm → Prop → Int64 × Mm × Prop) (hk93 : ∀ (l0 : Nat) (l2 : Int32) (l3 : Int32) (l4 : Int32) (l5 : Int64) (l7 : Int32) (m : Mm) (o : Prop), Mh wJ l E mi_X12_burns c0 s0 93 [(0, .ref l0), (2, .int l2), (3, .int l3), (4, .int l4), (5, .long l5), (7, .int l7)] [] m o (k93 l0 l2 l3 l4 l5 l7 m o)) (k102 : Nat → Int32 → Int32 → Int32 → Int64 → Int32 → Int32 → Mm → Prop → Int64 × Mm × Prop) (hk102 : ∀ (l0 : Nat) (l2 : Int32) (l3 : Int32) (l4 : Int32) (l5 : Int64) (l7 : Int32) (l8 : Int32) (m : Mm) (o : Prop), Mh wJ l E mi_X12_burns c0 s0 102 [(0, .ref l0), (2, .int l2), (3, .int l3), (4, .int l4), (5, .long l5), (7, .int l7), (8, .int l8)] [] m o (k102 l0 l2 l3 l4 l5 l7 l8 m o)) (l0 : Nat) (l2 : Int32) (l3 : Int32) (l4 : Int32) (l5 : Int64) (l7 : Int32) (l8 : Int32) (m : Mm) (o : Prop) : Mh wJ l E mi_X12_burns c0 s0 118 [(0, .ref l0), (2, .int l2), (3, .int l3), (4, .int l4), (5, .long l5), (7, .int l7), (8, .int l8)] [] m o (f_X12_burns_118 k93 k102 l0 l2 l3 l4 l5 l7 l8 m o) := by
  refine Mh_iinc (v := l8 + 1) (lv' := [(8, .int (l8 + 1)), (0, .ref l0), (2, .int l2), (3, .int l3), (4, .int l4), (5, .long l5), (7, .int l7)]) 6 dX12_burns_118 rfl rfl (Nat.le_of_ble_eq_true rfl) rfl ?_
  refine Mh_goto (tgt := 102) dX12_burns_121 (by decide) ?_
  refine Mh_sub (lv' := [(0, .ref l0), (2, .int l2), (3, .int l3), (4, .int l4), (5, .long l5), (7, .int l7), (8, .int (l8 + 1))]) [1, 2, 3, 4, 5, 6, 0] rfl ?_
  exact hk102 _ _ _ _ _ _ _ _ _
def f_X12_burns_181 (k93 : Nat → Int32 → Int32 → Int32 → Int64 → Int32 → Mm → Prop → Int64 × Mm × Prop) (k127 : Nat → Int32 → Int32 → Int32 → Int64 → Int32 → Int32 → Mm → Prop → Int64 × Mm × Prop) (k138 : Nat → Int32 → Int32 → Int32 → Int64 → Int32 → Int32 → Int32 → Mm → Prop → Int64 × Mm × Prop) (l0 : Nat) (l2 : Int32) (l3 : Int32) (l4 : Int32) (l5 : Int64) (l7 : Int32) (l8 : Int32) (l9 : Int32) (m : Mm) (o : Prop) : Int64 × Mm × Prop := k138 l0 l2 l3 l4 l5 l7 l8 (l9 + 1) m o
set_option maxRecDepth 10000 in
theorem t_X12_burns_181 (l : Launch) (E : En) (c0 s0 : Nat) (k93 : Nat → Int32 → Int32 → Int32 → Int64 → Int32 → Mm → Prop → Int64 × Mm × Prop) (hk93 : ∀ (l0 : Nat) (l2 : Int32) (l3 : Int32) (l4 : Int32) (l5 : Int64) (l7 : Int32) (m : Mm) (o : Prop), Mh wJ l E mi_X12_burns c0 s0 93 [(0, .ref l0), (2, .int l2), (3, .int l3), (4, .int l4), (5, .long l5), (7, .int l7)] [] m o (k93 l0 l2 l3 l4 l5 l7 m o)) (k127 : Nat → Int32 → Int32 → Int32 → Int64 → Int32 → Int32 → Mm → Prop → Int64 × Mm × Prop) (hk127 : ∀ (l0 : Nat) (l2 : Int32) (l3 : Int32) (l4 : Int32) (l5 : Int64) (l7 : Int32) (l8 : Int32) (m : Mm) (o : Prop), Mh wJ l E mi_X12_burns c0 s0 127 [(0, .ref l0), (2, .int l2), (3, .int l3), (4, .int l4), (5, .long l5), (7, .int l7), (8, .int l8)] [] m o (k127 l0 l2 l3 l4 l5 l7 l8 m o)) (k138 : Nat → Int32 → Int32 → Int32 → Int64 → Int32 → Int32 → Int32 → Mm → Prop → Int64 × Mm × Prop) (hk138 : ∀ (l0 : Nat) (l2 : Int32) (l3 : Int32) (l4 : Int32) (l5 : Int64) (l7 : Int32) (l8 : Int32) (l9 : Int32) (m : Mm) (o : Prop), Mh wJ l E mi_X12_burns c0 s0 138 [(0, .ref l0), (2, .int l2), (3, .int l3), (4, .int l4), (5, .long l5), (7, .int l7), (8, .int l8), (9, .int l9)] [] m o (k138 l0 l2 l3 l4 l5 l7 l8 l9 m o)) (l0 : Nat) (l2 : Int32) (l3 : Int32) (l4 : Int32) (l5 : Int64) (l7 : Int32) (l8 : Int32) (l9 : Int32) (m : Mm) (o : Prop) : Mh wJ l E mi_X12_burns c0 s0 181 [(0, .ref l0), (2, .int l2), (3, .int l3), (4, .int l4), (5, .long l5), (7, .int l7), (8, .int l8), (9, .int l9)] [] m o (f_X12_burns_181 k93 k127 k138 l0 l2 l3 l4 l5 l7 l8 l9 m o) := by
  refine Mh_iinc (v := l9 + 1) (lv' := [(9, .int (l9 + 1)), (0, .ref l0), (2, .int l2), (3, .int l3), (4, .int l4), (5, .long l5), (7, .int l7), (8, .int l8)]) 7 dX12_burns_181 rfl rfl (Nat.le_of_ble_eq_true rfl) rfl ?_
  refine Mh_goto (tgt := 138) dX12_burns_184 (by decide) ?_
  refine Mh_sub (lv' := [(0, .ref l0), (2, .int l2), (3, .int l3), (4, .int l4), (5, .long l5), (7, .int l7), (8, .int l8), (9, .int (l9 + 1))]) [1, 2, 3, 4, 5, 6, 7, 0] rfl ?_
  exact hk138 _ _ _ _ _ _ _ _ _ _
def f_X12_burns_170 (k93 : Nat → Int32 → Int32 → Int32 → Int64 → Int32 → Mm → Prop → Int64 × Mm × Prop) (k127 : Nat → Int32 → Int32 → Int32 → Int64 → Int32 → Int32 → Mm → Prop → Int64 × Mm × Prop) (k138 : Nat → Int32 → Int32 → Int32 → Int64 → Int32 → Int32 → Int32 → Mm → Prop → Int64 × Mm × Prop) (l0 : Nat) (l2 : Int32) (l3 : Int32) (l4 : Int32) (l5 : Int64) (l7 : Int32) (l8 : Int32) (l9 : Int32) (y1 : Int32) (y0 : Nat) (m : Mm) (o : Prop) : Int64 × Mm × Prop := f_X12_burns_181 k93 k127 k138 l0 l2 l3 l4 l5 l7 l8 l9 (sL m y0 (ix y1) ((gL m y0 (ix y1)) + (gL m (gR m l0 72) (ix l8)))) (((o ∧ (gT m y0 = 21 ∧ vp_in y1 (gN m y0))) ∧ (gT m l0 = 12 ∧ gR m l0 72 ≠ 0)) ∧ (gT m (gR m l0 72) = 21 ∧ vp_in l8 (gN m (gR m l0 72))))
set_option maxRecDepth 10000 in
theorem t_X12_burns_170 (l : Launch) (E : En) (c0 s0 : Nat) (k93 : Nat → Int32 → Int32 → Int32 → Int64 → Int32 → Mm → Prop → Int64 × Mm × Prop) (hk93 : ∀ (l0 : Nat) (l2 : Int32) (l3 : Int32) (l4 : Int32) (l5 : Int64) (l7 : Int32) (m : Mm) (o : Prop), Mh wJ l E mi_X12_burns c0 s0 93 [(0, .ref l0), (2, .int l2), (3, .int l3), (4, .int l4), (5, .long l5), (7, .int l7)] [] m o (k93 l0 l2 l3 l4 l5 l7 m o)) (k127 : Nat → Int32 → Int32 → Int32 → Int64 → Int32 → Int32 → Mm → Prop → Int64 × Mm × Prop) (hk127 : ∀ (l0 : Nat) (l2 : Int32) (l3 : Int32) (l4 : Int32) (l5 : Int64) (l7 : Int32) (l8 : Int32) (m : Mm) (o : Prop), Mh wJ l E mi_X12_burns c0 s0 127 [(0, .ref l0), (2, .int l2), (3, .int l3), (4, .int l4), (5, .long l5), (7, .int l7), (8, .int l8)] [] m o (k127 l0 l2 l3 l4 l5 l7 l8 m o)) (k138 : Nat → Int32 → Int32 → Int32 → Int64 → Int32 → Int32 → Int32 → Mm → Prop → Int64 × Mm × Prop) (hk138 : ∀ (l0 : Nat) (l2 : Int32) (l3 : Int32) (l4 : Int32) (l5 : Int64) (l7 : Int32) (l8 : Int32) (l9 : Int32) (m : Mm) (o : Prop), Mh wJ l E mi_X12_burns c0 s0 138 [(0, .ref l0), (2, .int l2), (3, .int l3), (4, .int l4), (5, .long l5), (7, .int l7), (8, .int l8), (9, .int l9)] [] m o (k138 l0 l2 l3 l4 l5 l7 l8 l9 m o)) (l0 : Nat) (l2 : Int32) (l3 : Int32) (l4 : Int32) (l5 : Int64) (l7 : Int32) (l8 : Int32) (l9 : Int32) (y1 : Int32) (y0 : Nat) (m : Mm) (o : Prop) : Mh wJ l E mi_X12_burns c0 s0 170 [(0, .ref l0), (2, .int l2), (3, .int l3), (4, .int l4), (5, .long l5), (7, .int l7), (8, .int l8), (9, .int l9)] [.int y1, .ref y0] m o (f_X12_burns_170 k93 k127 k138 l0 l2 l3 l4 l5 l7 l8 l9 y1 y0 m o) := by
  refine Mh_dup2 dX12_burns_170 rfl rfl ?_
  refine Mh_lal dX12_burns_171 ?_
  refine Mh_aload_n 0 rfl dX12_burns_172 ?_
  refine Mh_gR fd_11_72 fl_RX12_170 dX12_burns_173 ?_
  refine Mh_iload 6 rfl dX12_burns_176 ?_
  refine Mh_lal dX12_burns_178 ?_
  refine Mh_ladd dX12_burns_179 ?_
  refine Mh_las dX12_burns_180 ?_
  refine Mh_ok (fun h => h.1.1.2) ?_
  exact t_X12_burns_181 l E c0 s0 k93 hk93 k127 hk127 k138 hk138 _ _ _ _ _ _ _ _ _ _
def f_X12_burns_138b (k93 : Nat → Int32 → Int32 → Int32 → Int64 → Int32 → Mm → Prop → Int64 × Mm × Prop) (k127 : Nat → Int32 → Int32 → Int32 → Int64 → Int32 → Int32 → Mm → Prop → Int64 × Mm × Prop) (k138 : Nat → Int32 → Int32 → Int32 → Int64 → Int32 → Int32 → Int32 → Mm → Prop → Int64 × Mm × Prop) (l0 : Nat) (l2 : Int32) (l3 : Int32) (l4 : Int32) (l5 : Int64) (l7 : Int32) (l8 : Int32) (l9 : Int32) (m : Mm) (o : Prop) : Int64 × Mm × Prop := if l3 < l9 then (k127 l0 l2 l3 l4 l5 l7 (l8 + 1) m o) else (if (l8 + l9) ≤ (500 : Int32) then (f_X12_burns_170 k93 k127 k138 l0 l2 l3 l4 l5 l7 l8 l9 (l8 + l9) (gR m l0 73) m (o ∧ (gT m l0 = 12 ∧ gR m l0 73 ≠ 0))) else (f_X12_burns_170 k93 k127 k138 l0 l2 l3 l4 l5 l7 l8 l9 (500 : Int32) (gR m l0 73) m (o ∧ (gT m l0 = 12 ∧ gR m l0 73 ≠ 0))))
set_option maxRecDepth 10000 in
theorem t_X12_burns_138b (l : Launch) (E : En) (c0 s0 : Nat) (k93 : Nat → Int32 → Int32 → Int32 → Int64 → Int32 → Mm → Prop → Int64 × Mm × Prop) (hk93 : ∀ (l0 : Nat) (l2 : Int32) (l3 : Int32) (l4 : Int32) (l5 : Int64) (l7 : Int32) (m : Mm) (o : Prop), Mh wJ l E mi_X12_burns c0 s0 93 [(0, .ref l0), (2, .int l2), (3, .int l3), (4, .int l4), (5, .long l5), (7, .int l7)] [] m o (k93 l0 l2 l3 l4 l5 l7 m o)) (k127 : Nat → Int32 → Int32 → Int32 → Int64 → Int32 → Int32 → Mm → Prop → Int64 × Mm × Prop) (hk127 : ∀ (l0 : Nat) (l2 : Int32) (l3 : Int32) (l4 : Int32) (l5 : Int64) (l7 : Int32) (l8 : Int32) (m : Mm) (o : Prop), Mh wJ l E mi_X12_burns c0 s0 127 [(0, .ref l0), (2, .int l2), (3, .int l3), (4, .int l4), (5, .long l5), (7, .int l7), (8, .int l8)] [] m o (k127 l0 l2 l3 l4 l5 l7 l8 m o)) (k138 : Nat → Int32 → Int32 → Int32 → Int64 → Int32 → Int32 → Int32 → Mm → Prop → Int64 × Mm × Prop) (hk138 : ∀ (l0 : Nat) (l2 : Int32) (l3 : Int32) (l4 : Int32) (l5 : Int64) (l7 : Int32) (l8 : Int32) (l9 : Int32) (m : Mm) (o : Prop), Mh wJ l E mi_X12_burns c0 s0 138 [(0, .ref l0), (2, .int l2), (3, .int l3), (4, .int l4), (5, .long l5), (7, .int l7), (8, .int l8), (9, .int l9)] [] m o (k138 l0 l2 l3 l4 l5 l7 l8 l9 m o)) (l0 : Nat) (l2 : Int32) (l3 : Int32) (l4 : Int32) (l5 : Int64) (l7 : Int32) (l8 : Int32) (l9 : Int32) (m : Mm) (o : Prop) : Mh wJ l E mi_X12_burns c0 s0 138 [(0, .ref l0), (2, .int l2), (3, .int l3), (4, .int l4), (5, .long l5), (7, .int l7), (8, .int l8), (9, .int l9)] [] m o (f_X12_burns_138b k93 k127 k138 l0 l2 l3 l4 l5 l7 l8 l9 m o) := by
  refine Mh_iload 7 rfl dX12_burns_138 ?_
  refine Mh_iload_n 2 rfl dX12_burns_140 ?_
  refine Mh_icmp_gt (tgt := 187) dX12_burns_141 (by decide) rfl (fun _ => ?_) (fun _ => ?_)
  · refine Mh_iinc (v := l8 + 1) (lv' := [(8, .int (l8 + 1)), (0, .ref l0), (2, .int l2), (3, .int l3), (4, .int l4), (5, .long l5), (7, .int l7), (9, .int l9)]) 6 dX12_burns_187 rfl rfl (Nat.le_of_ble_eq_true rfl) rfl ?_
    refine Mh_goto (tgt := 127) dX12_burns_190 (by decide) ?_
    refine Mh_sub (lv' := [(0, .ref l0), (2, .int l2), (3, .int l3), (4, .int l4), (5, .long l5), (7, .int l7), (8, .int (l8 + 1))]) [1, 2, 3, 4, 5, 6, 0] rfl ?_
    exact hk127 _ _ _ _ _ _ _ _ _
  · refine Mh_aload_n 0 rfl dX12_burns_144 ?_
    refine Mh_gR fd_11_73 fl_RX12_174 dX12_burns_145 ?_
    refine Mh_iload 6 rfl dX12_burns_148 ?_
    refine Mh_iload 7 rfl dX12_burns_150 ?_
    refine Mh_iadd dX12_burns_152 ?_
    refine Mh_sipush (v := 500) dX12_burns_153 (by decide) ?_
    refine Mh_icmp_le (tgt := 165) dX12_burns_156 (by decide) rfl (fun _ => ?_) (fun _ => ?_)
    · refine Mh_iload 6 rfl dX12_burns_165 ?_
      refine Mh_iload 7 rfl dX12_burns_167 ?_
      refine Mh_iadd dX12_burns_169 ?_
      exact t_X12_burns_170 l E c0 s0 k93 hk93 k127 hk127 k138 hk138 _ _ _ _ _ _ _ _ _ _ _ _
    · refine Mh_sipush (v := 500) dX12_burns_159 (by decide) ?_
      refine Mh_goto (tgt := 170) dX12_burns_162 (by decide) ?_
      exact t_X12_burns_170 l E c0 s0 k93 hk93 k127 hk127 k138 hk138 _ _ _ _ _ _ _ _ _ _ _ _
def f_X12_burns_138 (k93 : Nat → Int32 → Int32 → Int32 → Int64 → Int32 → Mm → Prop → Int64 × Mm × Prop) (k127 : Nat → Int32 → Int32 → Int32 → Int64 → Int32 → Int32 → Mm → Prop → Int64 × Mm × Prop) : Nat → Nat → Int32 → Int32 → Int32 → Int64 → Int32 → Int32 → Int32 → Mm → Prop → Int64 × Mm × Prop
  | 0, _, _, _, _, _, _, _, _, m, _ => (0, m, False)
  | n + 1, l0, l2, l3, l4, l5, l7, l8, l9, m, o => f_X12_burns_138b k93 k127 (f_X12_burns_138 k93 k127 n) l0 l2 l3 l4 l5 l7 l8 l9 m o
theorem t_X12_burns_138 (l : Launch) (E : En) (c0 s0 : Nat) (k93 : Nat → Int32 → Int32 → Int32 → Int64 → Int32 → Mm → Prop → Int64 × Mm × Prop) (hk93 : ∀ (l0 : Nat) (l2 : Int32) (l3 : Int32) (l4 : Int32) (l5 : Int64) (l7 : Int32) (m : Mm) (o : Prop), Mh wJ l E mi_X12_burns c0 s0 93 [(0, .ref l0), (2, .int l2), (3, .int l3), (4, .int l4), (5, .long l5), (7, .int l7)] [] m o (k93 l0 l2 l3 l4 l5 l7 m o)) (k127 : Nat → Int32 → Int32 → Int32 → Int64 → Int32 → Int32 → Mm → Prop → Int64 × Mm × Prop) (hk127 : ∀ (l0 : Nat) (l2 : Int32) (l3 : Int32) (l4 : Int32) (l5 : Int64) (l7 : Int32) (l8 : Int32) (m : Mm) (o : Prop), Mh wJ l E mi_X12_burns c0 s0 127 [(0, .ref l0), (2, .int l2), (3, .int l3), (4, .int l4), (5, .long l5), (7, .int l7), (8, .int l8)] [] m o (k127 l0 l2 l3 l4 l5 l7 l8 m o)) : ∀ (n : Nat) (l0 : Nat) (l2 : Int32) (l3 : Int32) (l4 : Int32) (l5 : Int64) (l7 : Int32) (l8 : Int32) (l9 : Int32) (m : Mm) (o : Prop), Mh wJ l E mi_X12_burns c0 s0 138 [(0, .ref l0), (2, .int l2), (3, .int l3), (4, .int l4), (5, .long l5), (7, .int l7), (8, .int l8), (9, .int l9)] [] m o (f_X12_burns_138 k93 k127 n l0 l2 l3 l4 l5 l7 l8 l9 m o)
  | 0, _, _, _, _, _, _, _, _, _, _ => Mh_out rfl
  | n + 1, l0, l2, l3, l4, l5, l7, l8, l9, m, o => t_X12_burns_138b l E c0 s0 k93 hk93 k127 hk127 (f_X12_burns_138 k93 k127 n) (t_X12_burns_138 l E c0 s0 k93 hk93 k127 hk127 n) l0 l2 l3 l4 l5 l7 l8 l9 m o
def f_X12_burns_218 (k93 : Nat → Int32 → Int32 → Int32 → Int64 → Int32 → Mm → Prop → Int64 × Mm × Prop) (k196 : Nat → Int32 → Int32 → Int32 → Int64 → Int32 → Int32 → Mm → Prop → Int64 × Mm × Prop) (l0 : Nat) (l2 : Int32) (l3 : Int32) (l4 : Int32) (l5 : Int64) (l7 : Int32) (l8 : Int32) (m : Mm) (o : Prop) : Int64 × Mm × Prop := k196 l0 l2 l3 l4 l5 l7 (l8 + 1) m o
set_option maxRecDepth 10000 in
theorem t_X12_burns_218 (l : Launch) (E : En) (c0 s0 : Nat) (k93 : Nat → Int32 → Int32 → Int32 → Int64 → Int32 → Mm → Prop → Int64 × Mm × Prop) (hk93 : ∀ (l0 : Nat) (l2 : Int32) (l3 : Int32) (l4 : Int32) (l5 : Int64) (l7 : Int32) (m : Mm) (o : Prop), Mh wJ l E mi_X12_burns c0 s0 93 [(0, .ref l0), (2, .int l2), (3, .int l3), (4, .int l4), (5, .long l5), (7, .int l7)] [] m o (k93 l0 l2 l3 l4 l5 l7 m o)) (k196 : Nat → Int32 → Int32 → Int32 → Int64 → Int32 → Int32 → Mm → Prop → Int64 × Mm × Prop) (hk196 : ∀ (l0 : Nat) (l2 : Int32) (l3 : Int32) (l4 : Int32) (l5 : Int64) (l7 : Int32) (l8 : Int32) (m : Mm) (o : Prop), Mh wJ l E mi_X12_burns c0 s0 196 [(0, .ref l0), (2, .int l2), (3, .int l3), (4, .int l4), (5, .long l5), (7, .int l7), (8, .int l8)] [] m o (k196 l0 l2 l3 l4 l5 l7 l8 m o)) (l0 : Nat) (l2 : Int32) (l3 : Int32) (l4 : Int32) (l5 : Int64) (l7 : Int32) (l8 : Int32) (m : Mm) (o : Prop) : Mh wJ l E mi_X12_burns c0 s0 218 [(0, .ref l0), (2, .int l2), (3, .int l3), (4, .int l4), (5, .long l5), (7, .int l7), (8, .int l8)] [] m o (f_X12_burns_218 k93 k196 l0 l2 l3 l4 l5 l7 l8 m o) := by
  refine Mh_iinc (v := l8 + 1) (lv' := [(8, .int (l8 + 1)), (0, .ref l0), (2, .int l2), (3, .int l3), (4, .int l4), (5, .long l5), (7, .int l7)]) 6 dX12_burns_218 rfl rfl (Nat.le_of_ble_eq_true rfl) rfl ?_
  refine Mh_goto (tgt := 196) dX12_burns_221 (by decide) ?_
  refine Mh_sub (lv' := [(0, .ref l0), (2, .int l2), (3, .int l3), (4, .int l4), (5, .long l5), (7, .int l7), (8, .int (l8 + 1))]) [1, 2, 3, 4, 5, 6, 0] rfl ?_
  exact hk196 _ _ _ _ _ _ _ _ _
def f_X12_burns_196b (k93 : Nat → Int32 → Int32 → Int32 → Int64 → Int32 → Mm → Prop → Int64 × Mm × Prop) (k196 : Nat → Int32 → Int32 → Int32 → Int64 → Int32 → Int32 → Mm → Prop → Int64 × Mm × Prop) (l0 : Nat) (l2 : Int32) (l3 : Int32) (l4 : Int32) (l5 : Int64) (l7 : Int32) (l8 : Int32) (m : Mm) (o : Prop) : Int64 × Mm × Prop := if (500 : Int32) < l8 then (k93 l0 l2 l3 l4 (l5 * (Int32.toInt64 (l3 + (1 : Int32)))) (l7 + 1) m o) else (f_X12_burns_218 k93 k196 l0 l2 l3 l4 l5 l7 l8 (sL m (gR m l0 72) (ix l8) (gL m (gR m l0 73) (ix l8))) ((((o ∧ (gT m l0 = 12 ∧ gR m l0 72 ≠ 0)) ∧ (gT m l0 = 12 ∧ gR m l0 73 ≠ 0)) ∧ (gT m (gR m l0 73) = 21 ∧ vp_in l8 (gN m (gR m l0 73)))) ∧ (gT m (gR m l0 72) = 21 ∧ vp_in l8 (gN m (gR m l0 72)))))
set_option maxRecDepth 10000 in
theorem t_X12_burns_196b (l : Launch) (E : En) (c0 s0 : Nat) (k93 : Nat → Int32 → Int32 → Int32 → Int64 → Int32 → Mm → Prop → Int64 × Mm × Prop) (hk93 : ∀ (l0 : Nat) (l2 : Int32) (l3 : Int32) (l4 : Int32) (l5 : Int64) (l7 : Int32) (m : Mm) (o : Prop), Mh wJ l E mi_X12_burns c0 s0 93 [(0, .ref l0), (2, .int l2), (3, .int l3), (4, .int l4), (5, .long l5), (7, .int l7)] [] m o (k93 l0 l2 l3 l4 l5 l7 m o)) (k196 : Nat → Int32 → Int32 → Int32 → Int64 → Int32 → Int32 → Mm → Prop → Int64 × Mm × Prop) (hk196 : ∀ (l0 : Nat) (l2 : Int32) (l3 : Int32) (l4 : Int32) (l5 : Int64) (l7 : Int32) (l8 : Int32) (m : Mm) (o : Prop), Mh wJ l E mi_X12_burns c0 s0 196 [(0, .ref l0), (2, .int l2), (3, .int l3), (4, .int l4), (5, .long l5), (7, .int l7), (8, .int l8)] [] m o (k196 l0 l2 l3 l4 l5 l7 l8 m o)) (l0 : Nat) (l2 : Int32) (l3 : Int32) (l4 : Int32) (l5 : Int64) (l7 : Int32) (l8 : Int32) (m : Mm) (o : Prop) : Mh wJ l E mi_X12_burns c0 s0 196 [(0, .ref l0), (2, .int l2), (3, .int l3), (4, .int l4), (5, .long l5), (7, .int l7), (8, .int l8)] [] m o (f_X12_burns_196b k93 k196 l0 l2 l3 l4 l5 l7 l8 m o) := by
  refine Mh_iload 6 rfl dX12_burns_196 ?_
  refine Mh_sipush (v := 500) dX12_burns_198 (by decide) ?_
  refine Mh_icmp_gt (tgt := 224) dX12_burns_201 (by decide) rfl (fun _ => ?_) (fun _ => ?_)
  · refine Mh_lload 4 rfl dX12_burns_224 ?_
    refine Mh_iload_n 2 rfl dX12_burns_226 ?_
    refine Mh_iconst (v := 1) dX12_burns_227 (by decide) ?_
    refine Mh_iadd dX12_burns_228 ?_
    refine Mh_i2l dX12_burns_229 ?_
    refine Mh_lmul dX12_burns_230 ?_
    refine Mh_lstore (lv' := [(5, .long (l5 * (Int32.toInt64 (l3 + (1 : Int32))))), (0, .ref l0), (2, .int l2), (3, .int l3), (4, .int l4), (7, .int l7), (8, .int l8)]) dX12_burns_231 (Nat.le_of_ble_eq_true rfl) rfl ?_
    refine Mh_iinc (v := l7 + 1) (lv' := [(7, .int (l7 + 1)), (5, .long (l5 * (Int32.toInt64 (l3 + (1 : Int32))))), (0, .ref l0), (2, .int l2), (3, .int l3), (4, .int l4), (8, .int l8)]) 5 dX12_burns_233 rfl rfl (Nat.le_of_ble_eq_true rfl) rfl ?_
    refine Mh_goto (tgt := 93) dX12_burns_236 (by decide) ?_
    refine Mh_sub (lv' := [(0, .ref l0), (2, .int l2), (3, .int l3), (4, .int l4), (5, .long (l5 * (Int32.toInt64 (l3 + (1 : Int32))))), (7, .int (l7 + 1))]) [2, 3, 4, 5, 1, 0] rfl ?_
    exact hk93 _ _ _ _ _ _ _ _
  · refine Mh_aload_n 0 rfl dX12_burns_204 ?_
    refine Mh_gR fd_11_72 fl_RX12_170 dX12_burns_205 ?_
    refine Mh_iload 6 rfl dX12_burns_208 ?_
    refine Mh_aload_n 0 rfl dX12_burns_210 ?_
    refine Mh_gR fd_11_73 fl_RX12_174 dX12_burns_211 ?_
    refine Mh_iload 6 rfl dX12_burns_214 ?_
    refine Mh_lal dX12_burns_216 ?_
    refine Mh_las dX12_burns_217 ?_
    exact t_X12_burns_218 l E c0 s0 k93 hk93 k196 hk196 _ _ _ _ _ _ _ _ _
def f_X12_burns_196 (k93 : Nat → Int32 → Int32 → Int32 → Int64 → Int32 → Mm → Prop → Int64 × Mm × Prop) : Nat → Nat → Int32 → Int32 → Int32 → Int64 → Int32 → Int32 → Mm → Prop → Int64 × Mm × Prop
  | 0, _, _, _, _, _, _, _, m, _ => (0, m, False)
  | n + 1, l0, l2, l3, l4, l5, l7, l8, m, o => f_X12_burns_196b k93 (f_X12_burns_196 k93 n) l0 l2 l3 l4 l5 l7 l8 m o
theorem t_X12_burns_196 (l : Launch) (E : En) (c0 s0 : Nat) (k93 : Nat → Int32 → Int32 → Int32 → Int64 → Int32 → Mm → Prop → Int64 × Mm × Prop) (hk93 : ∀ (l0 : Nat) (l2 : Int32) (l3 : Int32) (l4 : Int32) (l5 : Int64) (l7 : Int32) (m : Mm) (o : Prop), Mh wJ l E mi_X12_burns c0 s0 93 [(0, .ref l0), (2, .int l2), (3, .int l3), (4, .int l4), (5, .long l5), (7, .int l7)] [] m o (k93 l0 l2 l3 l4 l5 l7 m o)) : ∀ (n : Nat) (l0 : Nat) (l2 : Int32) (l3 : Int32) (l4 : Int32) (l5 : Int64) (l7 : Int32) (l8 : Int32) (m : Mm) (o : Prop), Mh wJ l E mi_X12_burns c0 s0 196 [(0, .ref l0), (2, .int l2), (3, .int l3), (4, .int l4), (5, .long l5), (7, .int l7), (8, .int l8)] [] m o (f_X12_burns_196 k93 n l0 l2 l3 l4 l5 l7 l8 m o)
  | 0, _, _, _, _, _, _, _, _, _ => Mh_out rfl
  | n + 1, l0, l2, l3, l4, l5, l7, l8, m, o => t_X12_burns_196b l E c0 s0 k93 hk93 (f_X12_burns_196 k93 n) (t_X12_burns_196 l E c0 s0 k93 hk93 n) l0 l2 l3 l4 l5 l7 l8 m o
def f_X12_burns_127b (k93 : Nat → Int32 → Int32 → Int32 → Int64 → Int32 → Mm → Prop → Int64 × Mm × Prop) (k127 : Nat → Int32 → Int32 → Int32 → Int64 → Int32 → Int32 → Mm → Prop → Int64 × Mm × Prop) (l0 : Nat) (l2 : Int32) (l3 : Int32) (l4 : Int32) (l5 : Int64) (l7 : Int32) (l8 : Int32) (m : Mm) (o : Prop) : Int64 × Mm × Prop := if (500 : Int32) < l8 then (f_X12_burns_196 k93 1000 l0 l2 l3 l4 l5 l7 (0 : Int32) m o) else (f_X12_burns_138 k93 k127 1000 l0 l2 l3 l4 l5 l7 l8 (0 : Int32) m o)
set_option maxRecDepth 10000 in
theorem t_X12_burns_127b (l : Launch) (E : En) (c0 s0 : Nat) (k93 : Nat → Int32 → Int32 → Int32 → Int64 → Int32 → Mm → Prop → Int64 × Mm × Prop) (hk93 : ∀ (l0 : Nat) (l2 : Int32) (l3 : Int32) (l4 : Int32) (l5 : Int64) (l7 : Int32) (m : Mm) (o : Prop), Mh wJ l E mi_X12_burns c0 s0 93 [(0, .ref l0), (2, .int l2), (3, .int l3), (4, .int l4), (5, .long l5), (7, .int l7)] [] m o (k93 l0 l2 l3 l4 l5 l7 m o)) (k127 : Nat → Int32 → Int32 → Int32 → Int64 → Int32 → Int32 → Mm → Prop → Int64 × Mm × Prop) (hk127 : ∀ (l0 : Nat) (l2 : Int32) (l3 : Int32) (l4 : Int32) (l5 : Int64) (l7 : Int32) (l8 : Int32) (m : Mm) (o : Prop), Mh wJ l E mi_X12_burns c0 s0 127 [(0, .ref l0), (2, .int l2), (3, .int l3), (4, .int l4), (5, .long l5), (7, .int l7), (8, .int l8)] [] m o (k127 l0 l2 l3 l4 l5 l7 l8 m o)) (l0 : Nat) (l2 : Int32) (l3 : Int32) (l4 : Int32) (l5 : Int64) (l7 : Int32) (l8 : Int32) (m : Mm) (o : Prop) : Mh wJ l E mi_X12_burns c0 s0 127 [(0, .ref l0), (2, .int l2), (3, .int l3), (4, .int l4), (5, .long l5), (7, .int l7), (8, .int l8)] [] m o (f_X12_burns_127b k93 k127 l0 l2 l3 l4 l5 l7 l8 m o) := by
  refine Mh_iload 6 rfl dX12_burns_127 ?_
  refine Mh_sipush (v := 500) dX12_burns_129 (by decide) ?_
  refine Mh_icmp_gt (tgt := 193) dX12_burns_132 (by decide) rfl (fun _ => ?_) (fun _ => ?_)
  · refine Mh_iconst (v := 0) dX12_burns_193 (by decide) ?_
    refine Mh_istore (lv' := [(8, .int (0 : Int32)), (0, .ref l0), (2, .int l2), (3, .int l3), (4, .int l4), (5, .long l5), (7, .int l7)]) dX12_burns_194 (Nat.le_of_ble_eq_true rfl) rfl ?_
    refine Mh_sub (lv' := [(0, .ref l0), (2, .int l2), (3, .int l3), (4, .int l4), (5, .long l5), (7, .int l7), (8, .int (0 : Int32))]) [1, 2, 3, 4, 5, 6, 0] rfl ?_
    exact t_X12_burns_196 l E c0 s0 k93 hk93 _ _ _ _ _ _ _ _ _ _
  · refine Mh_iconst (v := 0) dX12_burns_135 (by decide) ?_
    refine Mh_istore (lv' := [(9, .int (0 : Int32)), (0, .ref l0), (2, .int l2), (3, .int l3), (4, .int l4), (5, .long l5), (7, .int l7), (8, .int l8)]) dX12_burns_136 (Nat.le_of_ble_eq_true rfl) rfl ?_
    refine Mh_sub (lv' := [(0, .ref l0), (2, .int l2), (3, .int l3), (4, .int l4), (5, .long l5), (7, .int l7), (8, .int l8), (9, .int (0 : Int32))]) [1, 2, 3, 4, 5, 6, 7, 0] rfl ?_
    exact t_X12_burns_138 l E c0 s0 k93 hk93 k127 hk127 _ _ _ _ _ _ _ _ _ _ _
def f_X12_burns_127 (k93 : Nat → Int32 → Int32 → Int32 → Int64 → Int32 → Mm → Prop → Int64 × Mm × Prop) : Nat → Nat → Int32 → Int32 → Int32 → Int64 → Int32 → Int32 → Mm → Prop → Int64 × Mm × Prop
  | 0, _, _, _, _, _, _, _, m, _ => (0, m, False)
  | n + 1, l0, l2, l3, l4, l5, l7, l8, m, o => f_X12_burns_127b k93 (f_X12_burns_127 k93 n) l0 l2 l3 l4 l5 l7 l8 m o
theorem t_X12_burns_127 (l : Launch) (E : En) (c0 s0 : Nat) (k93 : Nat → Int32 → Int32 → Int32 → Int64 → Int32 → Mm → Prop → Int64 × Mm × Prop) (hk93 : ∀ (l0 : Nat) (l2 : Int32) (l3 : Int32) (l4 : Int32) (l5 : Int64) (l7 : Int32) (m : Mm) (o : Prop), Mh wJ l E mi_X12_burns c0 s0 93 [(0, .ref l0), (2, .int l2), (3, .int l3), (4, .int l4), (5, .long l5), (7, .int l7)] [] m o (k93 l0 l2 l3 l4 l5 l7 m o)) : ∀ (n : Nat) (l0 : Nat) (l2 : Int32) (l3 : Int32) (l4 : Int32) (l5 : Int64) (l7 : Int32) (l8 : Int32) (m : Mm) (o : Prop), Mh wJ l E mi_X12_burns c0 s0 127 [(0, .ref l0), (2, .int l2), (3, .int l3), (4, .int l4), (5, .long l5), (7, .int l7), (8, .int l8)] [] m o (f_X12_burns_127 k93 n l0 l2 l3 l4 l5 l7 l8 m o)
  | 0, _, _, _, _, _, _, _, _, _ => Mh_out rfl
  | n + 1, l0, l2, l3, l4, l5, l7, l8, m, o => t_X12_burns_127b l E c0 s0 k93 hk93 (f_X12_burns_127 k93 n) (t_X12_burns_127 l E c0 s0 k93 hk93 n) l0 l2 l3 l4 l5 l7 l8 m o
def f_X12_burns_102b (k93 : Nat → Int32 → Int32 → Int32 → Int64 → Int32 → Mm → Prop → Int64 × Mm × Prop) (k102 : Nat → Int32 → Int32 → Int32 → Int64 → Int32 → Int32 → Mm → Prop → Int64 × Mm × Prop) (l0 : Nat) (l2 : Int32) (l3 : Int32) (l4 : Int32) (l5 : Int64) (l7 : Int32) (l8 : Int32) (m : Mm) (o : Prop) : Int64 × Mm × Prop := if (500 : Int32) < l8 then (f_X12_burns_127 k93 1000 l0 l2 l3 l4 l5 l7 (0 : Int32) m o) else (f_X12_burns_118 k93 k102 l0 l2 l3 l4 l5 l7 l8 (sL m (gR m l0 73) (ix l8) (0 : Int64)) ((o ∧ (gT m l0 = 12 ∧ gR m l0 73 ≠ 0)) ∧ (gT m (gR m l0 73) = 21 ∧ vp_in l8 (gN m (gR m l0 73)))))
set_option maxRecDepth 10000 in
theorem t_X12_burns_102b (l : Launch) (E : En) (c0 s0 : Nat) (k93 : Nat → Int32 → Int32 → Int32 → Int64 → Int32 → Mm → Prop → Int64 × Mm × Prop) (hk93 : ∀ (l0 : Nat) (l2 : Int32) (l3 : Int32) (l4 : Int32) (l5 : Int64) (l7 : Int32) (m : Mm) (o : Prop), Mh wJ l E mi_X12_burns c0 s0 93 [(0, .ref l0), (2, .int l2), (3, .int l3), (4, .int l4), (5, .long l5), (7, .int l7)] [] m o (k93 l0 l2 l3 l4 l5 l7 m o)) (k102 : Nat → Int32 → Int32 → Int32 → Int64 → Int32 → Int32 → Mm → Prop → Int64 × Mm × Prop) (hk102 : ∀ (l0 : Nat) (l2 : Int32) (l3 : Int32) (l4 : Int32) (l5 : Int64) (l7 : Int32) (l8 : Int32) (m : Mm) (o : Prop), Mh wJ l E mi_X12_burns c0 s0 102 [(0, .ref l0), (2, .int l2), (3, .int l3), (4, .int l4), (5, .long l5), (7, .int l7), (8, .int l8)] [] m o (k102 l0 l2 l3 l4 l5 l7 l8 m o)) (l0 : Nat) (l2 : Int32) (l3 : Int32) (l4 : Int32) (l5 : Int64) (l7 : Int32) (l8 : Int32) (m : Mm) (o : Prop) : Mh wJ l E mi_X12_burns c0 s0 102 [(0, .ref l0), (2, .int l2), (3, .int l3), (4, .int l4), (5, .long l5), (7, .int l7), (8, .int l8)] [] m o (f_X12_burns_102b k93 k102 l0 l2 l3 l4 l5 l7 l8 m o) := by
  refine Mh_iload 6 rfl dX12_burns_102 ?_
  refine Mh_sipush (v := 500) dX12_burns_104 (by decide) ?_
  refine Mh_icmp_gt (tgt := 124) dX12_burns_107 (by decide) rfl (fun _ => ?_) (fun _ => ?_)
  · refine Mh_iconst (v := 0) dX12_burns_124 (by decide) ?_
    refine Mh_istore (lv' := [(8, .int (0 : Int32)), (0, .ref l0), (2, .int l2), (3, .int l3), (4, .int l4), (5, .long l5), (7, .int l7)]) dX12_burns_125 (Nat.le_of_ble_eq_true rfl) rfl ?_
    refine Mh_sub (lv' := [(0, .ref l0), (2, .int l2), (3, .int l3), (4, .int l4), (5, .long l5), (7, .int l7), (8, .int (0 : Int32))]) [1, 2, 3, 4, 5, 6, 0] rfl ?_
    exact t_X12_burns_127 l E c0 s0 k93 hk93 _ _ _ _ _ _ _ _ _ _
  · refine Mh_aload_n 0 rfl dX12_burns_110 ?_
    refine Mh_gR fd_11_73 fl_RX12_174 dX12_burns_111 ?_
    refine Mh_iload 6 rfl dX12_burns_114 ?_
    refine Mh_lconst (v := 0) dX12_burns_116 (by decide) ?_
    refine Mh_las dX12_burns_117 ?_
    exact t_X12_burns_118 l E c0 s0 k93 hk93 k102 hk102 _ _ _ _ _ _ _ _ _
def f_X12_burns_102 (k93 : Nat → Int32 → Int32 → Int32 → Int64 → Int32 → Mm → Prop → Int64 × Mm × Prop) : Nat → Nat → Int32 → Int32 → Int32 → Int64 → Int32 → Int32 → Mm → Prop → Int64 × Mm × Prop
  | 0, _, _, _, _, _, _, _, m, _ => (0, m, False)
  | n + 1, l0, l2, l3, l4, l5, l7, l8, m, o => f_X12_burns_102b k93 (f_X12_burns_102 k93 n) l0 l2 l3 l4 l5 l7 l8 m o
theorem t_X12_burns_102 (l : Launch) (E : En) (c0 s0 : Nat) (k93 : Nat → Int32 → Int32 → Int32 → Int64 → Int32 → Mm → Prop → Int64 × Mm × Prop) (hk93 : ∀ (l0 : Nat) (l2 : Int32) (l3 : Int32) (l4 : Int32) (l5 : Int64) (l7 : Int32) (m : Mm) (o : Prop), Mh wJ l E mi_X12_burns c0 s0 93 [(0, .ref l0), (2, .int l2), (3, .int l3), (4, .int l4), (5, .long l5), (7, .int l7)] [] m o (k93 l0 l2 l3 l4 l5 l7 m o)) : ∀ (n : Nat) (l0 : Nat) (l2 : Int32) (l3 : Int32) (l4 : Int32) (l5 : Int64) (l7 : Int32) (l8 : Int32) (m : Mm) (o : Prop), Mh wJ l E mi_X12_burns c0 s0 102 [(0, .ref l0), (2, .int l2), (3, .int l3), (4, .int l4), (5, .long l5), (7, .int l7), (8, .int l8)] [] m o (f_X12_burns_102 k93 n l0 l2 l3 l4 l5 l7 l8 m o)
  | 0, _, _, _, _, _, _, _, _, _ => Mh_out rfl
  | n + 1, l0, l2, l3, l4, l5, l7, l8, m, o => t_X12_burns_102b l E c0 s0 k93 hk93 (f_X12_burns_102 k93 n) (t_X12_burns_102 l E c0 s0 k93 hk93 n) l0 l2 l3 l4 l5 l7 l8 m o
def f_X12_burns_278 (y0 : Int64) (m : Mm) (o : Prop) : Int64 × Mm × Prop := (y0, m, o)
set_option maxRecDepth 10000 in
theorem t_X12_burns_278 (l : Launch) (E : En) (c0 s0 : Nat) (y0 : Int64) (m : Mm) (o : Prop) : Mh wJ l E mi_X12_burns c0 s0 278 [] [.long y0] m o (f_X12_burns_278 y0 m o) := by
  exact Mh_ret dX12_burns_278 rfl (fun _ => rfl) rfl
def f_X12_burns_252 (l0 : Nat) (l4 : Int32) (l5 : Int64) (y0 : Int64) (m : Mm) (o : Prop) : Int64 × Mm × Prop := if l4 = 0 then (f_X12_burns_278 ((gL m (gR m l0 72) (ix (500 : Int32))) / y0) m (((o ∧ (gT m l0 = 12 ∧ gR m l0 72 ≠ 0)) ∧ (gT m (gR m l0 72) = 21 ∧ vp_in (500 : Int32) (gN m (gR m l0 72)))) ∧ ¬ y0 = 0)) else (f_X12_burns_278 (l5 / y0) m (o ∧ ¬ y0 = 0))
set_option maxRecDepth 10000 in
theorem t_X12_burns_252 (l : Launch) (E : En) (c0 s0 : Nat) (l0 : Nat) (l4 : Int32) (l5 : Int64) (y0 : Int64) (m : Mm) (o : Prop) : Mh wJ l E mi_X12_burns c0 s0 252 [(0, .ref l0), (4, .int l4), (5, .long l5)] [.long y0] m o (f_X12_burns_252 l0 l4 l5 y0 m o) := by
  refine Mh_lstore (lv' := [(7, .long y0), (0, .ref l0), (4, .int l4), (5, .long l5)]) dX12_burns_252 (Nat.le_of_ble_eq_true rfl) rfl ?_
  refine Mh_iload 2 rfl dX12_burns_254 ?_
  refine Mh_if_ne (tgt := 273) dX12_burns_256 (by decide) rfl (fun _ => ?_) (fun _ => ?_)
  · refine Mh_lload 3 rfl dX12_burns_273 ?_
    refine Mh_lload 0 rfl dX12_burns_275 ?_
    refine Mh_ldiv dX12_burns_277 ?_
    refine Mh_sub (lv' := []) [] rfl ?_
    exact t_X12_burns_278 l E c0 s0 _ _ _
  · refine Mh_aload_n 1 rfl dX12_burns_259 ?_
    refine Mh_gR fd_11_72 fl_RX12_170 dX12_burns_260 ?_
    refine Mh_sipush (v := 500) dX12_burns_263 (by decide) ?_
    refine Mh_lal dX12_burns_266 ?_
    refine Mh_lload 0 rfl dX12_burns_267 ?_
    refine Mh_ldiv dX12_burns_269 ?_
    refine Mh_goto (tgt := 278) dX12_burns_270 (by decide) ?_
    refine Mh_sub (lv' := []) [] rfl ?_
    exact t_X12_burns_278 l E c0 s0 _ _ _
def f_X12_burns_93b (k93 : Nat → Int32 → Int32 → Int32 → Int64 → Int32 → Mm → Prop → Int64 × Mm × Prop) (l0 : Nat) (l2 : Int32) (l3 : Int32) (l4 : Int32) (l5 : Int64) (l7 : Int32) (m : Mm) (o : Prop) : Int64 × Mm × Prop := if l2 ≤ l7 then (bnd (F_X12_divisor (gL m (gR m l0 72) (ix (500 : Int32))) l5 m ((o ∧ (gT m l0 = 12 ∧ gR m l0 72 ≠ 0)) ∧ (gT m (gR m l0 72) = 21 ∧ vp_in (500 : Int32) (gN m (gR m l0 72))))) (fun v1 m1 o1 => f_X12_burns_252 l0 l4 l5 v1 m1 o1)) else (f_X12_burns_102 k93 1000 l0 l2 l3 l4 l5 l7 (0 : Int32) m o)
set_option maxRecDepth 10000 in
theorem t_X12_burns_93b (l : Launch) (E : En) (c0 s0 : Nat) (k93 : Nat → Int32 → Int32 → Int32 → Int64 → Int32 → Mm → Prop → Int64 × Mm × Prop) (hk93 : ∀ (l0 : Nat) (l2 : Int32) (l3 : Int32) (l4 : Int32) (l5 : Int64) (l7 : Int32) (m : Mm) (o : Prop), Mh wJ l E mi_X12_burns c0 s0 93 [(0, .ref l0), (2, .int l2), (3, .int l3), (4, .int l4), (5, .long l5), (7, .int l7)] [] m o (k93 l0 l2 l3 l4 l5 l7 m o)) (l0 : Nat) (l2 : Int32) (l3 : Int32) (l4 : Int32) (l5 : Int64) (l7 : Int32) (m : Mm) (o : Prop) : Mh wJ l E mi_X12_burns c0 s0 93 [(0, .ref l0), (2, .int l2), (3, .int l3), (4, .int l4), (5, .long l5), (7, .int l7)] [] m o (f_X12_burns_93b k93 l0 l2 l3 l4 l5 l7 m o) := by
  refine Mh_iload 5 rfl dX12_burns_93 ?_
  refine Mh_iload_n 1 rfl dX12_burns_95 ?_
  refine Mh_icmp_ge (tgt := 239) dX12_burns_96 (by decide) rfl (fun _ => ?_) (fun _ => ?_)
  · refine Mh_aload_n 0 rfl dX12_burns_239 ?_
    refine Mh_gR fd_11_72 fl_RX12_170 dX12_burns_240 ?_
    refine Mh_sipush (v := 500) dX12_burns_243 (by decide) ?_
    refine Mh_lal dX12_burns_246 ?_
    refine Mh_lload 4 rfl dX12_burns_247 ?_
    refine Mh_csJ (N := mi_X12_divisor) (as := [.long (gL m (gR m l0 72) (ix (500 : Int32))), .long l5]) (st := []) cg_yX12_divisor (.inl ml_RX12_458) sv_yX12_divisor pd_yX12_divisor rfl (by decide) (Nat.le_of_ble_eq_true rfl) rfl dX12_burns_249 (T_X12_divisor l E _ _ _ _) rfl ?_
    refine Mh_sub (lv' := [(0, .ref l0), (4, .int l4), (5, .long l5)]) [0, 3, 4] rfl ?_
    exact t_X12_burns_252 l E c0 s0 _ _ _ _ _ _
  · refine Mh_iconst (v := 0) dX12_burns_99 (by decide) ?_
    refine Mh_istore (lv' := [(8, .int (0 : Int32)), (0, .ref l0), (2, .int l2), (3, .int l3), (4, .int l4), (5, .long l5), (7, .int l7)]) dX12_burns_100 (Nat.le_of_ble_eq_true rfl) rfl ?_
    refine Mh_sub (lv' := [(0, .ref l0), (2, .int l2), (3, .int l3), (4, .int l4), (5, .long l5), (7, .int l7), (8, .int (0 : Int32))]) [1, 2, 3, 4, 5, 6, 0] rfl ?_
    exact t_X12_burns_102 l E c0 s0 k93 hk93 _ _ _ _ _ _ _ _ _ _
def f_X12_burns_93 : Nat → Nat → Int32 → Int32 → Int32 → Int64 → Int32 → Mm → Prop → Int64 × Mm × Prop
  | 0, _, _, _, _, _, _, m, _ => (0, m, False)
  | n + 1, l0, l2, l3, l4, l5, l7, m, o => f_X12_burns_93b (f_X12_burns_93 n) l0 l2 l3 l4 l5 l7 m o
theorem t_X12_burns_93 (l : Launch) (E : En) (c0 s0 : Nat) : ∀ (n : Nat) (l0 : Nat) (l2 : Int32) (l3 : Int32) (l4 : Int32) (l5 : Int64) (l7 : Int32) (m : Mm) (o : Prop), Mh wJ l E mi_X12_burns c0 s0 93 [(0, .ref l0), (2, .int l2), (3, .int l3), (4, .int l4), (5, .long l5), (7, .int l7)] [] m o (f_X12_burns_93 n l0 l2 l3 l4 l5 l7 m o)
  | 0, _, _, _, _, _, _, _, _ => Mh_out rfl
  | n + 1, l0, l2, l3, l4, l5, l7, m, o => t_X12_burns_93b l E c0 s0 (f_X12_burns_93 n) (t_X12_burns_93 l E c0 s0 n) l0 l2 l3 l4 l5 l7 m o
def f_X12_burns_50b (k50 : Nat → Int32 → Int32 → Int32 → Int32 → Int32 → Mm → Prop → Int64 × Mm × Prop) (l0 : Nat) (l1 : Int32) (l2 : Int32) (l3 : Int32) (l4 : Int32) (l5 : Int32) (m : Mm) (o : Prop) : Int64 × Mm × Prop := if (500 : Int32) < l5 then (f_X12_burns_93 1000 l0 l2 l3 l4 (1 : Int64) (0 : Int32) m o) else (if l5 = (gI m (gR m l0 13) (ix l1)) then (f_X12_burns_80 k50 l0 l1 l2 l3 l4 l5 (1 : Int64) l5 (gR m l0 72) m (((o ∧ (gT m l0 = 12 ∧ gR m l0 72 ≠ 0)) ∧ (gT m l0 = 12 ∧ gR m l0 13 ≠ 0)) ∧ (gT m (gR m l0 13) = 20 ∧ vp_in l1 (gN m (gR m l0 13))))) else (f_X12_burns_80 k50 l0 l1 l2 l3 l4 l5 (0 : Int64) l5 (gR m l0 72) m (((o ∧ (gT m l0 = 12 ∧ gR m l0 72 ≠ 0)) ∧ (gT m l0 = 12 ∧ gR m l0 13 ≠ 0)) ∧ (gT m (gR m l0 13) = 20 ∧ vp_in l1 (gN m (gR m l0 13))))))
set_option maxRecDepth 10000 in
theorem t_X12_burns_50b (l : Launch) (E : En) (c0 s0 : Nat) (k50 : Nat → Int32 → Int32 → Int32 → Int32 → Int32 → Mm → Prop → Int64 × Mm × Prop) (hk50 : ∀ (l0 : Nat) (l1 : Int32) (l2 : Int32) (l3 : Int32) (l4 : Int32) (l5 : Int32) (m : Mm) (o : Prop), Mh wJ l E mi_X12_burns c0 s0 50 [(0, .ref l0), (1, .int l1), (2, .int l2), (3, .int l3), (4, .int l4), (5, .int l5)] [] m o (k50 l0 l1 l2 l3 l4 l5 m o)) (l0 : Nat) (l1 : Int32) (l2 : Int32) (l3 : Int32) (l4 : Int32) (l5 : Int32) (m : Mm) (o : Prop) : Mh wJ l E mi_X12_burns c0 s0 50 [(0, .ref l0), (1, .int l1), (2, .int l2), (3, .int l3), (4, .int l4), (5, .int l5)] [] m o (f_X12_burns_50b k50 l0 l1 l2 l3 l4 l5 m o) := by
  refine Mh_iload 5 rfl dX12_burns_50 ?_
  refine Mh_sipush (v := 500) dX12_burns_52 (by decide) ?_
  refine Mh_icmp_gt (tgt := 87) dX12_burns_55 (by decide) rfl (fun _ => ?_) (fun _ => ?_)
  · refine Mh_lconst (v := 1) dX12_burns_87 (by decide) ?_
    refine Mh_lstore (lv' := [(5, .long (1 : Int64)), (0, .ref l0), (1, .int l1), (2, .int l2), (3, .int l3), (4, .int l4)]) dX12_burns_88 (Nat.le_of_ble_eq_true rfl) rfl ?_
    refine Mh_iconst (v := 0) dX12_burns_90 (by decide) ?_
    refine Mh_istore (lv' := [(7, .int (0 : Int32)), (5, .long (1 : Int64)), (0, .ref l0), (1, .int l1), (2, .int l2), (3, .int l3), (4, .int l4)]) dX12_burns_91 (Nat.le_of_ble_eq_true rfl) rfl ?_
    refine Mh_sub (lv' := [(0, .ref l0), (2, .int l2), (3, .int l3), (4, .int l4), (5, .long (1 : Int64)), (7, .int (0 : Int32))]) [2, 4, 5, 6, 1, 0] rfl ?_
    exact t_X12_burns_93 l E c0 s0 _ _ _ _ _ _ _ _ _
  · refine Mh_aload_n 0 rfl dX12_burns_58 ?_
    refine Mh_gR fd_11_72 fl_RX12_170 dX12_burns_59 ?_
    refine Mh_iload 5 rfl dX12_burns_62 ?_
    refine Mh_iload 5 rfl dX12_burns_64 ?_
    refine Mh_aload_n 0 rfl dX12_burns_66 ?_
    refine Mh_gR fd_11_13 fl_RX12_36 dX12_burns_67 ?_
    refine Mh_iload_n 1 rfl dX12_burns_70 ?_
    refine Mh_ial dX12_burns_71 ?_
    refine Mh_icmp_ne (tgt := 79) dX12_burns_72 (by decide) rfl (fun _ => ?_) (fun _ => ?_)
    · refine Mh_lconst (v := 0) dX12_burns_79 (by decide) ?_
      exact t_X12_burns_80 l E c0 s0 k50 hk50 _ _ _ _ _ _ _ _ _ _ _
    · refine Mh_lconst (v := 1) dX12_burns_75 (by decide) ?_
      refine Mh_goto (tgt := 80) dX12_burns_76 (by decide) ?_
      exact t_X12_burns_80 l E c0 s0 k50 hk50 _ _ _ _ _ _ _ _ _ _ _
def f_X12_burns_50 : Nat → Nat → Int32 → Int32 → Int32 → Int32 → Int32 → Mm → Prop → Int64 × Mm × Prop
  | 0, _, _, _, _, _, _, m, _ => (0, m, False)
  | n + 1, l0, l1, l2, l3, l4, l5, m, o => f_X12_burns_50b (f_X12_burns_50 n) l0 l1 l2 l3 l4 l5 m o
theorem t_X12_burns_50 (l : Launch) (E : En) (c0 s0 : Nat) : ∀ (n : Nat) (l0 : Nat) (l1 : Int32) (l2 : Int32) (l3 : Int32) (l4 : Int32) (l5 : Int32) (m : Mm) (o : Prop), Mh wJ l E mi_X12_burns c0 s0 50 [(0, .ref l0), (1, .int l1), (2, .int l2), (3, .int l3), (4, .int l4), (5, .int l5)] [] m o (f_X12_burns_50 n l0 l1 l2 l3 l4 l5 m o)
  | 0, _, _, _, _, _, _, _, _ => Mh_out rfl
  | n + 1, l0, l1, l2, l3, l4, l5, m, o => t_X12_burns_50b l E c0 s0 (f_X12_burns_50 n) (t_X12_burns_50 l E c0 s0 n) l0 l1 l2 l3 l4 l5 m o
def f_X12_burns_40 (l0 : Nat) (l1 : Int32) (l2 : Int32) (l3 : Int32) (l4 : Int32) (y0 : Int32) (m : Mm) (o : Prop) : Int64 × Mm × Prop := if y0 = 0 then (f_X12_burns_43  m o) else (f_X12_burns_50 1000 l0 l1 l2 l3 l4 (0 : Int32) m o)
set_option maxRecDepth 10000 in
theorem t_X12_burns_40 (l : Launch) (E : En) (c0 s0 : Nat) (l0 : Nat) (l1 : Int32) (l2 : Int32) (l3 : Int32) (l4 : Int32) (y0 : Int32) (m : Mm) (o : Prop) : Mh wJ l E mi_X12_burns c0 s0 40 [(0, .ref l0), (1, .int l1), (2, .int l2), (3, .int l3), (4, .int l4)] [.int y0] m o (f_X12_burns_40 l0 l1 l2 l3 l4 y0 m o) := by
  refine Mh_if_ne (tgt := 47) dX12_burns_40 (by decide) rfl (fun _ => ?_) (fun _ => ?_)
  · refine Mh_iconst (v := 0) dX12_burns_47 (by decide) ?_
    refine Mh_istore (lv' := [(5, .int (0 : Int32)), (0, .ref l0), (1, .int l1), (2, .int l2), (3, .int l3), (4, .int l4)]) dX12_burns_48 (Nat.le_of_ble_eq_true rfl) rfl ?_
    refine Mh_sub (lv' := [(0, .ref l0), (1, .int l1), (2, .int l2), (3, .int l3), (4, .int l4), (5, .int (0 : Int32))]) [1, 2, 3, 4, 5, 0] rfl ?_
    exact t_X12_burns_50 l E c0 s0 _ _ _ _ _ _ _ _ _
  · refine Mh_sub (lv' := []) [] rfl ?_
    exact t_X12_burns_43 l E c0 s0  _ _
def f_X12_burns_29 (l0 : Nat) (l1 : Int32) (l2 : Int32) (l3 : Int32) (l4 : Int32) (y0 : Int32) (m : Mm) (o : Prop) : Int64 × Mm × Prop := if y0 = 0 then (f_X12_burns_43  m o) else (bnd (F_X12_lies (Int32.toInt64 l4) (0 : Int64) (1 : Int64) m o) (fun v1 m1 o1 => f_X12_burns_40 l0 l1 l2 l3 l4 v1 m1 o1))
set_option maxRecDepth 10000 in
theorem t_X12_burns_29 (l : Launch) (E : En) (c0 s0 : Nat) (l0 : Nat) (l1 : Int32) (l2 : Int32) (l3 : Int32) (l4 : Int32) (y0 : Int32) (m : Mm) (o : Prop) : Mh wJ l E mi_X12_burns c0 s0 29 [(0, .ref l0), (1, .int l1), (2, .int l2), (3, .int l3), (4, .int l4)] [.int y0] m o (f_X12_burns_29 l0 l1 l2 l3 l4 y0 m o) := by
  refine Mh_if_eq (tgt := 43) dX12_burns_29 (by decide) rfl (fun _ => ?_) (fun _ => ?_)
  · refine Mh_sub (lv' := []) [] rfl ?_
    exact t_X12_burns_43 l E c0 s0  _ _
  · refine Mh_iload 4 rfl dX12_burns_32 ?_
    refine Mh_i2l dX12_burns_34 ?_
    refine Mh_lconst (v := 0) dX12_burns_35 (by decide) ?_
    refine Mh_lconst (v := 1) dX12_burns_36 (by decide) ?_
    refine Mh_csI (N := mi_X12_lies) (as := [.long (Int32.toInt64 l4), .long (0 : Int64), .long (1 : Int64)]) (st := []) cg_yX12_lies (.inl ml_RX12_188) sv_yX12_lies pd_yX12_lies rfl (by decide) (Nat.le_of_ble_eq_true rfl) rfl dX12_burns_37 (T_X12_lies l E _ _ _ _ _) rfl ?_
    exact t_X12_burns_40 l E c0 s0 _ _ _ _ _ _ _ _
def f_X12_burns_17 (l0 : Nat) (l1 : Int32) (l2 : Int32) (l3 : Int32) (l4 : Int32) (y0 : Int32) (m : Mm) (o : Prop) : Int64 × Mm × Prop := if y0 = 0 then (f_X12_burns_43  m o) else (bnd (F_X12_lies (Int32.toInt64 l3) (1 : Int64) (30 : Int64) m o) (fun v1 m1 o1 => f_X12_burns_29 l0 l1 l2 l3 l4 v1 m1 o1))
set_option maxRecDepth 10000 in
theorem t_X12_burns_17 (l : Launch) (E : En) (c0 s0 : Nat) (l0 : Nat) (l1 : Int32) (l2 : Int32) (l3 : Int32) (l4 : Int32) (y0 : Int32) (m : Mm) (o : Prop) : Mh wJ l E mi_X12_burns c0 s0 17 [(0, .ref l0), (1, .int l1), (2, .int l2), (3, .int l3), (4, .int l4)] [.int y0] m o (f_X12_burns_17 l0 l1 l2 l3 l4 y0 m o) := by
  refine Mh_if_eq (tgt := 43) dX12_burns_17 (by decide) rfl (fun _ => ?_) (fun _ => ?_)
  · refine Mh_sub (lv' := []) [] rfl ?_
    exact t_X12_burns_43 l E c0 s0  _ _
  · refine Mh_iload_n 3 rfl dX12_burns_20 ?_
    refine Mh_i2l dX12_burns_21 ?_
    refine Mh_lconst (v := 1) dX12_burns_22 (by decide) ?_
    refine Mh_ldc2 (v := 30) gl_RX12_470 dX12_burns_23 ?_
    refine Mh_csI (N := mi_X12_lies) (as := [.long (Int32.toInt64 l3), .long (1 : Int64), .long (30 : Int64)]) (st := []) cg_yX12_lies (.inl ml_RX12_188) sv_yX12_lies pd_yX12_lies rfl (by decide) (Nat.le_of_ble_eq_true rfl) rfl dX12_burns_26 (T_X12_lies l E _ _ _ _ _) rfl ?_
    exact t_X12_burns_29 l E c0 s0 _ _ _ _ _ _ _ _
def f_X12_burns_5 (l0 : Nat) (l1 : Int32) (l2 : Int32) (l3 : Int32) (l4 : Int32) (y0 : Int32) (m : Mm) (o : Prop) : Int64 × Mm × Prop := if y0 = 0 then (f_X12_burns_43  m o) else (bnd (F_X12_lies (Int32.toInt64 l2) (1 : Int64) (12 : Int64) m o) (fun v1 m1 o1 => f_X12_burns_17 l0 l1 l2 l3 l4 v1 m1 o1))
set_option maxRecDepth 10000 in
theorem t_X12_burns_5 (l : Launch) (E : En) (c0 s0 : Nat) (l0 : Nat) (l1 : Int32) (l2 : Int32) (l3 : Int32) (l4 : Int32) (y0 : Int32) (m : Mm) (o : Prop) : Mh wJ l E mi_X12_burns c0 s0 5 [(0, .ref l0), (1, .int l1), (2, .int l2), (3, .int l3), (4, .int l4)] [.int y0] m o (f_X12_burns_5 l0 l1 l2 l3 l4 y0 m o) := by
  refine Mh_if_eq (tgt := 43) dX12_burns_5 (by decide) rfl (fun _ => ?_) (fun _ => ?_)
  · refine Mh_sub (lv' := []) [] rfl ?_
    exact t_X12_burns_43 l E c0 s0  _ _
  · refine Mh_iload_n 2 rfl dX12_burns_8 ?_
    refine Mh_i2l dX12_burns_9 ?_
    refine Mh_lconst (v := 1) dX12_burns_10 (by decide) ?_
    refine Mh_ldc2 (v := 12) gl_RX12_468 dX12_burns_11 ?_
    refine Mh_csI (N := mi_X12_lies) (as := [.long (Int32.toInt64 l2), .long (1 : Int64), .long (12 : Int64)]) (st := []) cg_yX12_lies (.inl ml_RX12_188) sv_yX12_lies pd_yX12_lies rfl (by decide) (Nat.le_of_ble_eq_true rfl) rfl dX12_burns_14 (T_X12_lies l E _ _ _ _ _) rfl ?_
    exact t_X12_burns_17 l E c0 s0 _ _ _ _ _ _ _ _
def f_X12_burns_0 (l0 : Nat) (l1 : Int32) (l2 : Int32) (l3 : Int32) (l4 : Int32) (m : Mm) (o : Prop) : Int64 × Mm × Prop := bnd (F_X12_isThere l0 l1 m (o ∧ gT m l0 = 12)) (fun v1 m1 o1 => f_X12_burns_5 l0 l1 l2 l3 l4 v1 m1 o1)
set_option maxRecDepth 10000 in
theorem t_X12_burns_0 (l : Launch) (E : En) (c0 s0 : Nat) (l0 : Nat) (l1 : Int32) (l2 : Int32) (l3 : Int32) (l4 : Int32) (m : Mm) (o : Prop) : Mh wJ l E mi_X12_burns c0 s0 0 [(0, .ref l0), (1, .int l1), (2, .int l2), (3, .int l3), (4, .int l4)] [] m o (f_X12_burns_0 l0 l1 l2 l3 l4 m o) := by
  refine Mh_aload_n 0 rfl dX12_burns_0 ?_
  refine Mh_iload_n 1 rfl dX12_burns_1 ?_
  refine Mh_cvI (N := mi_X12_isThere) (q := l0) (ci := 11) (as := [.int l1]) (st := []) (id) cg_yX12_isThere (by decide) rfl rfl ml_RX12_222 iv_yX12_isThere pd_yX12_isThere rfl (by decide) (Nat.le_of_ble_eq_true rfl) rfl dX12_burns_2 (T_X12_isThere l E _ _ _ _) rfl ?_
  exact t_X12_burns_5 l E c0 s0 _ _ _ _ _ _ _ _
def F_X12_burns (a0 : Nat) (a1 : Int32) (a2 : Int32) (a3 : Int32) (a4 : Int32) (m : Mm) (o : Prop) : Int64 × Mm × Prop := f_X12_burns_0 a0 a1 a2 a3 a4 m o
theorem T_X12_burns (l : Launch) (E : En) (a0 : Nat) (a1 : Int32) (a2 : Int32) (a3 : Int32) (a4 : Int32) (m : Mm) (o : Prop) : Mt wJ l E yX12_burns mi_X12_burns [.ref a0, .int a1, .int a2, .int a3, .int a4] m o (F_X12_burns a0 a1 a2 a3 a4 m o) :=
  Mt_J (by decide) rfl rfl rfl (Nat.le_of_ble_eq_true rfl) rfl (t_X12_burns_0 l E _ _ _ _ _ _ _ _ _)
def f_X12_digit_0 (l0 : Int32) (l1 : Int32) (l2 : Int32) (m : Mm) (o : Prop) : Int32 × Mm × Prop := ((l0 >>> (((2 : Int32) * ((l1 - (1 : Int32)) - l2)) &&& 31)) &&& (3 : Int32), m, o)
set_option maxRecDepth 10000 in
theorem t_X12_digit_0 (l : Launch) (E : En) (c0 s0 : Nat) (l0 : Int32) (l1 : Int32) (l2 : Int32) (m : Mm) (o : Prop) : Mh wI l E mi_X12_digit c0 s0 0 [(0, .int l0), (1, .int l1), (2, .int l2)] [] m o (f_X12_digit_0 l0 l1 l2 m o) := by
  refine Mh_iload_n 0 rfl dX12_digit_0 ?_
  refine Mh_iconst (v := 2) dX12_digit_1 (by decide) ?_
  refine Mh_iload_n 1 rfl dX12_digit_2 ?_
  refine Mh_iconst (v := 1) dX12_digit_3 (by decide) ?_
  refine Mh_isub dX12_digit_4 ?_
  refine Mh_iload_n 2 rfl dX12_digit_5 ?_
  refine Mh_isub dX12_digit_6 ?_
  refine Mh_imul dX12_digit_7 ?_
  refine Mh_ishr dX12_digit_8 ?_
  refine Mh_iconst (v := 3) dX12_digit_9 (by decide) ?_
  refine Mh_iand dX12_digit_10 ?_
  exact Mh_ret dX12_digit_11 rfl (fun _ => rfl) rfl
def F_X12_digit (a0 : Int32) (a1 : Int32) (a2 : Int32) (m : Mm) (o : Prop) : Int32 × Mm × Prop := f_X12_digit_0 a0 a1 a2 m o
theorem T_X12_digit (l : Launch) (E : En) (a0 : Int32) (a1 : Int32) (a2 : Int32) (m : Mm) (o : Prop) : Mt wI l E yX12_digit mi_X12_digit [.int a0, .int a1, .int a2] m o (F_X12_digit a0 a1 a2 m o) :=
  Mt_I (by decide) rfl rfl rfl (Nat.le_of_ble_eq_true rfl) rfl (.inl rfl) (t_X12_digit_0 l E _ _ _ _ _ _ _)
def f_X12_isColour_9 (y0 : Int32) (m : Mm) (o : Prop) : Int32 × Mm × Prop := (y0, m, o ∧ (y0 = 0 ∨ y0 = 1))
set_option maxRecDepth 10000 in
theorem t_X12_isColour_9 (l : Launch) (E : En) (c0 s0 : Nat) (y0 : Int32) (m : Mm) (o : Prop) : Mh wI l E mi_X12_isColour c0 s0 9 [] [.int y0] m o (f_X12_isColour_9 y0 m o) := by
  exact Mh_retZ dX12_isColour_9 (.inl rfl) rfl
def f_X12_isColour_0 (l0 : Int32) (m : Mm) (o : Prop) : Int32 × Mm × Prop := bnd (F_X12_lies (Int32.toInt64 l0) (0 : Int64) (4 : Int64) m o) (fun v1 m1 o1 => f_X12_isColour_9 v1 m1 o1)
set_option maxRecDepth 10000 in
theorem t_X12_isColour_0 (l : Launch) (E : En) (c0 s0 : Nat) (l0 : Int32) (m : Mm) (o : Prop) : Mh wI l E mi_X12_isColour c0 s0 0 [(0, .int l0)] [] m o (f_X12_isColour_0 l0 m o) := by
  refine Mh_iload_n 0 rfl dX12_isColour_0 ?_
  refine Mh_i2l dX12_isColour_1 ?_
  refine Mh_lconst (v := 0) dX12_isColour_2 (by decide) ?_
  refine Mh_ldc2 (v := 4) gl_RX12_202 dX12_isColour_3 ?_
  refine Mh_csI (N := mi_X12_lies) (as := [.long (Int32.toInt64 l0), .long (0 : Int64), .long (4 : Int64)]) (st := []) cg_yX12_lies (.inl ml_RX12_188) sv_yX12_lies pd_yX12_lies rfl (by decide) (Nat.le_of_ble_eq_true rfl) rfl dX12_isColour_6 (T_X12_lies l E _ _ _ _ _) rfl ?_
  refine Mh_sub (lv' := []) [] rfl ?_
  exact t_X12_isColour_9 l E c0 s0 _ _ _
def F_X12_isColour (a0 : Int32) (m : Mm) (o : Prop) : Int32 × Mm × Prop := f_X12_isColour_0 a0 m o
theorem T_X12_isColour (l : Launch) (E : En) (a0 : Int32) (m : Mm) (o : Prop) : Mt wI l E yX12_isColour mi_X12_isColour [.int a0] m o (F_X12_isColour a0 m o) :=
  Mt_I (by decide) rfl rfl rfl (Nat.le_of_ble_eq_true rfl) rfl (.inr (.inl rfl)) (t_X12_isColour_0 l E _ _ _ _ _)
def f_X12_pence_0 (l0 : Int32) (m : Mm) (o : Prop) : Int32 × Mm × Prop := ((((l0 &&& (3 : Int32)) + ((l0 >>> ((2 : Int32) &&& 31)) &&& (3 : Int32))) + ((l0 >>> ((4 : Int32) &&& 31)) &&& (3 : Int32))) + ((l0 >>> ((6 : Int32) &&& 31)) &&& (3 : Int32)), m, o)
set_option maxRecDepth 10000 in
theorem t_X12_pence_0 (l : Launch) (E : En) (c0 s0 : Nat) (l0 : Int32) (m : Mm) (o : Prop) : Mh wI l E mi_X12_pence c0 s0 0 [(0, .int l0)] [] m o (f_X12_pence_0 l0 m o) := by
  refine Mh_iload_n 0 rfl dX12_pence_0 ?_
  refine Mh_iconst (v := 3) dX12_pence_1 (by decide) ?_
  refine Mh_iand dX12_pence_2 ?_
  refine Mh_iload_n 0 rfl dX12_pence_3 ?_
  refine Mh_iconst (v := 2) dX12_pence_4 (by decide) ?_
  refine Mh_ishr dX12_pence_5 ?_
  refine Mh_iconst (v := 3) dX12_pence_6 (by decide) ?_
  refine Mh_iand dX12_pence_7 ?_
  refine Mh_iadd dX12_pence_8 ?_
  refine Mh_iload_n 0 rfl dX12_pence_9 ?_
  refine Mh_iconst (v := 4) dX12_pence_10 (by decide) ?_
  refine Mh_ishr dX12_pence_11 ?_
  refine Mh_iconst (v := 3) dX12_pence_12 (by decide) ?_
  refine Mh_iand dX12_pence_13 ?_
  refine Mh_iadd dX12_pence_14 ?_
  refine Mh_iload_n 0 rfl dX12_pence_15 ?_
  refine Mh_bipush (v := 6) dX12_pence_16 (by decide) ?_
  refine Mh_ishr dX12_pence_18 ?_
  refine Mh_iconst (v := 3) dX12_pence_19 (by decide) ?_
  refine Mh_iand dX12_pence_20 ?_
  refine Mh_iadd dX12_pence_21 ?_
  exact Mh_ret dX12_pence_22 rfl (fun _ => rfl) rfl
def F_X12_pence (a0 : Int32) (m : Mm) (o : Prop) : Int32 × Mm × Prop := f_X12_pence_0 a0 m o
theorem T_X12_pence (l : Launch) (E : En) (a0 : Int32) (m : Mm) (o : Prop) : Mt wI l E yX12_pence mi_X12_pence [.int a0] m o (F_X12_pence a0 m o) :=
  Mt_I (by decide) rfl rfl rfl (Nat.le_of_ble_eq_true rfl) rfl (.inl rfl) (t_X12_pence_0 l E _ _ _ _ _)
