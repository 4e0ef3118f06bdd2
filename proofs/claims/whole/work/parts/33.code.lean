def f_X10_readFrom_155 (k16 : Nat → Nat → Int32 → Nat → Int32 → Int32 → Mm → Prop → Int32 × Mm × Prop) (l0 : Nat) (l1 : Nat) (l2 : Int32) (l3 : Nat) (l5 : Int32) (y0 : Int32) (m : Mm) (o : Prop) : Int32 × Mm × Prop := k16 l0 l1 l2 l3 y0 (l5 + 1) m o
set_option maxRecDepth 10000 in
theorem t_X10_readFrom_155 (l : Launch) (E : En) (c0 s0 : Nat) (k16 : Nat → Nat → Int32 → Nat → Int32 → Int32 → Mm → Prop → Int32 × Mm × Prop) (hk16 : ∀ (l0 : Nat) (l1 : Nat) (l2 : Int32) (l3 : Nat) (l4 : Int32) (l5 : Int32) (m : Mm) (o : Prop), Mh wI l E mi_X10_readFrom c0 s0 16 [(0, .ref l0), (1, .ref l1), (2, .int l2), (3, .ref l3), (4, .int l4), (5, .int l5)] [] m o (k16 l0 l1 l2 l3 l4 l5 m o)) (l0 : Nat) (l1 : Nat) (l2 : Int32) (l3 : Nat) (l5 : Int32) (y0 : Int32) (m : Mm) (o : Prop) : Mh wI l E mi_X10_readFrom c0 s0 155 [(0, .ref l0), (1, .ref l1), (2, .int l2), (3, .ref l3), (5, .int l5)] [.int y0] m o (f_X10_readFrom_155 k16 l0 l1 l2 l3 l5 y0 m o) := by
  refine Mh_istore (lv' := [(4, .int y0), (0, .ref l0), (1, .ref l1), (2, .int l2), (3, .ref l3), (5, .int l5)]) dX10_readFrom_155 (Nat.le_of_ble_eq_true rfl) rfl ?_
  refine Mh_iinc (v := l5 + 1) (lv' := [(5, .int (l5 + 1)), (4, .int y0), (0, .ref l0), (1, .ref l1), (2, .int l2), (3, .ref l3)]) 5 dX10_readFrom_157 rfl rfl (Nat.le_of_ble_eq_true rfl) rfl ?_
  refine Mh_goto (tgt := 16) dX10_readFrom_160 (by decide) ?_
  refine Mh_sub (lv' := [(0, .ref l0), (1, .ref l1), (2, .int l2), (3, .ref l3), (4, .int y0), (5, .int (l5 + 1))]) [2, 3, 4, 5, 1, 0] rfl ?_
  exact hk16 _ _ _ _ _ _ _ _
def f_X10_readFrom_154 (k16 : Nat → Nat → Int32 → Nat → Int32 → Int32 → Mm → Prop → Int32 × Mm × Prop) (l0 : Nat) (l1 : Nat) (l2 : Int32) (l3 : Nat) (l5 : Int32) (m : Mm) (o : Prop) : Int32 × Mm × Prop := f_X10_readFrom_155 k16 l0 l1 l2 l3 l5 (0 : Int32) m o
set_option maxRecDepth 10000 in
theorem t_X10_readFrom_154 (l : Launch) (E : En) (c0 s0 : Nat) (k16 : Nat → Nat → Int32 → Nat → Int32 → Int32 → Mm → Prop → Int32 × Mm × Prop) (hk16 : ∀ (l0 : Nat) (l1 : Nat) (l2 : Int32) (l3 : Nat) (l4 : Int32) (l5 : Int32) (m : Mm) (o : Prop), Mh wI l E mi_X10_readFrom c0 s0 16 [(0, .ref l0), (1, .ref l1), (2, .int l2), (3, .ref l3), (4, .int l4), (5, .int l5)] [] m o (k16 l0 l1 l2 l3 l4 l5 m o)) (l0 : Nat) (l1 : Nat) (l2 : Int32) (l3 : Nat) (l5 : Int32) (m : Mm) (o : Prop) : Mh wI l E mi_X10_readFrom c0 s0 154 [(0, .ref l0), (1, .ref l1), (2, .int l2), (3, .ref l3), (5, .int l5)] [] m o (f_X10_readFrom_154 k16 l0 l1 l2 l3 l5 m o) := by
  refine Mh_iconst (v := 0) dX10_readFrom_154 (by decide) ?_
  exact t_X10_readFrom_155 l E c0 s0 k16 hk16 _ _ _ _ _ _ _ _
def f_X10_readFrom_105 (k16 : Nat → Nat → Int32 → Nat → Int32 → Int32 → Mm → Prop → Int32 × Mm × Prop) (l0 : Nat) (l1 : Nat) (l2 : Int32) (l3 : Nat) (l4 : Int32) (l5 : Int32) (m : Mm) (o : Prop) : Int32 × Mm × Prop := if l4 = 0 then (f_X10_readFrom_154 k16 l0 l1 l2 l3 l5 m o) else (if (gI m l3 7) ≤ (gI m (gR m l0 0) (ix l5)) then (f_X10_readFrom_154 k16 l0 l1 l2 l3 l5 m (((o ∧ (gT m l0 = 10 ∧ gR m l0 0 ≠ 0)) ∧ (gT m (gR m l0 0) = 20 ∧ vp_in l5 (gN m (gR m l0 0)))) ∧ gT m l3 = 6)) else (if (gI m l3 6) ≤ (gI m (gR m l0 1) (ix l5)) then (f_X10_readFrom_154 k16 l0 l1 l2 l3 l5 m (((((o ∧ (gT m l0 = 10 ∧ gR m l0 0 ≠ 0)) ∧ (gT m (gR m l0 0) = 20 ∧ vp_in l5 (gN m (gR m l0 0)))) ∧ gT m l3 = 6) ∧ (gT m l0 = 10 ∧ gR m l0 1 ≠ 0)) ∧ (gT m (gR m l0 1) = 20 ∧ vp_in l5 (gN m (gR m l0 1))))) else (if (10 : Int32) ≤ (gI m (gR m l0 2) (ix l5)) then (f_X10_readFrom_154 k16 l0 l1 l2 l3 l5 m (((((((o ∧ (gT m l0 = 10 ∧ gR m l0 0 ≠ 0)) ∧ (gT m (gR m l0 0) = 20 ∧ vp_in l5 (gN m (gR m l0 0)))) ∧ gT m l3 = 6) ∧ (gT m l0 = 10 ∧ gR m l0 1 ≠ 0)) ∧ (gT m (gR m l0 1) = 20 ∧ vp_in l5 (gN m (gR m l0 1)))) ∧ (gT m l0 = 10 ∧ gR m l0 2 ≠ 0)) ∧ (gT m (gR m l0 2) = 20 ∧ vp_in l5 (gN m (gR m l0 2))))) else (f_X10_readFrom_155 k16 l0 l1 l2 l3 l5 (1 : Int32) m (((((((o ∧ (gT m l0 = 10 ∧ gR m l0 0 ≠ 0)) ∧ (gT m (gR m l0 0) = 20 ∧ vp_in l5 (gN m (gR m l0 0)))) ∧ gT m l3 = 6) ∧ (gT m l0 = 10 ∧ gR m l0 1 ≠ 0)) ∧ (gT m (gR m l0 1) = 20 ∧ vp_in l5 (gN m (gR m l0 1)))) ∧ (gT m l0 = 10 ∧ gR m l0 2 ≠ 0)) ∧ (gT m (gR m l0 2) = 20 ∧ vp_in l5 (gN m (gR m l0 2))))))))
set_option maxRecDepth 10000 in
theorem t_X10_readFrom_105 (l : Launch) (E : En) (c0 s0 : Nat) (k16 : Nat → Nat → Int32 → Nat → Int32 → Int32 → Mm → Prop → Int32 × Mm × Prop) (hk16 : ∀ (l0 : Nat) (l1 : Nat) (l2 : Int32) (l3 : Nat) (l4 : Int32) (l5 : Int32) (m : Mm) (o : Prop), Mh wI l E mi_X10_readFrom c0 s0 16 [(0, .ref l0), (1, .ref l1), (2, .int l2), (3, .ref l3), (4, .int l4), (5, .int l5)] [] m o (k16 l0 l1 l2 l3 l4 l5 m o)) (l0 : Nat) (l1 : Nat) (l2 : Int32) (l3 : Nat) (l4 : Int32) (l5 : Int32) (m : Mm) (o : Prop) : Mh wI l E mi_X10_readFrom c0 s0 105 [(0, .ref l0), (1, .ref l1), (2, .int l2), (3, .ref l3), (4, .int l4), (5, .int l5)] [] m o (f_X10_readFrom_105 k16 l0 l1 l2 l3 l4 l5 m o) := by
  refine Mh_iload 4 rfl dX10_readFrom_105 ?_
  refine Mh_if_eq (tgt := 154) dX10_readFrom_107 (by decide) rfl (fun _ => ?_) (fun _ => ?_)
  · refine Mh_sub (lv' := [(0, .ref l0), (1, .ref l1), (2, .int l2), (3, .ref l3), (5, .int l5)]) [0, 1, 2, 3, 5] rfl ?_
    exact t_X10_readFrom_154 l E c0 s0 k16 hk16 _ _ _ _ _ _ _
  · refine Mh_aload_n 0 rfl dX10_readFrom_110 ?_
    refine Mh_gR fd_9_0 fl_RX10_11 dX10_readFrom_111 ?_
    refine Mh_iload 5 rfl dX10_readFrom_114 ?_
    refine Mh_ial dX10_readFrom_116 ?_
    refine Mh_aload_n 3 rfl dX10_readFrom_117 ?_
    refine Mh_gI fd_5_7 fl_RX10_44 dX10_readFrom_118 ?_
    refine Mh_icmp_ge (tgt := 154) dX10_readFrom_121 (by decide) rfl (fun _ => ?_) (fun _ => ?_)
    · refine Mh_sub (lv' := [(0, .ref l0), (1, .ref l1), (2, .int l2), (3, .ref l3), (5, .int l5)]) [0, 1, 2, 3, 5] rfl ?_
      exact t_X10_readFrom_154 l E c0 s0 k16 hk16 _ _ _ _ _ _ _
    · refine Mh_aload_n 0 rfl dX10_readFrom_124 ?_
      refine Mh_gR fd_9_1 fl_RX10_15 dX10_readFrom_125 ?_
      refine Mh_iload 5 rfl dX10_readFrom_128 ?_
      refine Mh_ial dX10_readFrom_130 ?_
      refine Mh_aload_n 3 rfl dX10_readFrom_131 ?_
      refine Mh_gI fd_5_6 fl_RX10_49 dX10_readFrom_132 ?_
      refine Mh_ok (fun h => h.1.1.2) ?_
      refine Mh_icmp_ge (tgt := 154) dX10_readFrom_135 (by decide) rfl (fun _ => ?_) (fun _ => ?_)
      · refine Mh_sub (lv' := [(0, .ref l0), (1, .ref l1), (2, .int l2), (3, .ref l3), (5, .int l5)]) [0, 1, 2, 3, 5] rfl ?_
        exact t_X10_readFrom_154 l E c0 s0 k16 hk16 _ _ _ _ _ _ _
      · refine Mh_aload_n 0 rfl dX10_readFrom_138 ?_
        refine Mh_gR fd_9_2 fl_RX10_18 dX10_readFrom_139 ?_
        refine Mh_iload 5 rfl dX10_readFrom_142 ?_
        refine Mh_ial dX10_readFrom_144 ?_
        refine Mh_bipush (v := 10) dX10_readFrom_145 (by decide) ?_
        refine Mh_icmp_ge (tgt := 154) dX10_readFrom_147 (by decide) rfl (fun _ => ?_) (fun _ => ?_)
        · refine Mh_sub (lv' := [(0, .ref l0), (1, .ref l1), (2, .int l2), (3, .ref l3), (5, .int l5)]) [0, 1, 2, 3, 5] rfl ?_
          exact t_X10_readFrom_154 l E c0 s0 k16 hk16 _ _ _ _ _ _ _
        · refine Mh_iconst (v := 1) dX10_readFrom_150 (by decide) ?_
          refine Mh_goto (tgt := 155) dX10_readFrom_151 (by decide) ?_
          refine Mh_sub (lv' := [(0, .ref l0), (1, .ref l1), (2, .int l2), (3, .ref l3), (5, .int l5)]) [0, 1, 2, 3, 5] rfl ?_
          exact t_X10_readFrom_155 l E c0 s0 k16 hk16 _ _ _ _ _ _ _ _
def f_X10_readFrom_87 (k16 : Nat → Nat → Int32 → Nat → Int32 → Int32 → Mm → Prop → Int32 × Mm × Prop) (l0 : Nat) (l1 : Nat) (l2 : Int32) (l3 : Nat) (l4 : Int32) (l5 : Int32) (m : Mm) (o : Prop) : Int32 × Mm × Prop := f_X10_readFrom_105 k16 l0 l1 l2 l3 l4 l5 (sI m l0 5 (if (gI m l0 5) < (gI m (gR m l0 2) (ix l5)) then (gI m (gR m l0 2) (ix l5)) else (gI m l0 5))) (((o ∧ gT m l0 = 10) ∧ (gT m l0 = 10 ∧ gR m l0 2 ≠ 0)) ∧ (gT m (gR m l0 2) = 20 ∧ vp_in l5 (gN m (gR m l0 2))))
set_option maxRecDepth 10000 in
theorem t_X10_readFrom_87 (l : Launch) (E : En) (c0 s0 : Nat) (k16 : Nat → Nat → Int32 → Nat → Int32 → Int32 → Mm → Prop → Int32 × Mm × Prop) (hk16 : ∀ (l0 : Nat) (l1 : Nat) (l2 : Int32) (l3 : Nat) (l4 : Int32) (l5 : Int32) (m : Mm) (o : Prop), Mh wI l E mi_X10_readFrom c0 s0 16 [(0, .ref l0), (1, .ref l1), (2, .int l2), (3, .ref l3), (4, .int l4), (5, .int l5)] [] m o (k16 l0 l1 l2 l3 l4 l5 m o)) (l0 : Nat) (l1 : Nat) (l2 : Int32) (l3 : Nat) (l4 : Int32) (l5 : Int32) (m : Mm) (o : Prop) : Mh wI l E mi_X10_readFrom c0 s0 87 [(0, .ref l0), (1, .ref l1), (2, .int l2), (3, .ref l3), (4, .int l4), (5, .int l5)] [] m o (f_X10_readFrom_87 k16 l0 l1 l2 l3 l4 l5 m o) := by
  refine Mh_aload_n 0 rfl dX10_readFrom_87 ?_
  refine Mh_aload_n 0 rfl dX10_readFrom_88 ?_
  refine Mh_gI fd_9_5 fl_RX10_29 dX10_readFrom_89 ?_
  refine Mh_aload_n 0 rfl dX10_readFrom_92 ?_
  refine Mh_gR fd_9_2 fl_RX10_18 dX10_readFrom_93 ?_
  refine Mh_iload 5 rfl dX10_readFrom_96 ?_
  refine Mh_ial dX10_readFrom_98 ?_
  refine Mh_max (by decide) ml_RX10_38 ma_max_1 ma_2 ma_max_3 (Nat.le_of_ble_eq_true rfl) dX10_readFrom_99 ?_
  refine Mh_pI fd_9_5 ft_9 rfl fl_RX10_29 rfl dX10_readFrom_102 ?_
  refine Mh_ok (fun h => h.1.1.2) ?_
  exact t_X10_readFrom_105 l E c0 s0 k16 hk16 _ _ _ _ _ _ _ _
def f_X10_readFrom_86 (k16 : Nat → Nat → Int32 → Nat → Int32 → Int32 → Mm → Prop → Int32 × Mm × Prop) (l0 : Nat) (l1 : Nat) (l2 : Int32) (l3 : Nat) (l4 : Int32) (l5 : Int32) (y2 : Int32) (y1 : Int32) (y0 : Nat) (m : Mm) (o : Prop) : Int32 × Mm × Prop := f_X10_readFrom_87 k16 l0 l1 l2 l3 l4 l5 (sI m y0 (ix y1) y2) (o ∧ (gT m y0 = 20 ∧ vp_in y1 (gN m y0)))
set_option maxRecDepth 10000 in
theorem t_X10_readFrom_86 (l : Launch) (E : En) (c0 s0 : Nat) (k16 : Nat → Nat → Int32 → Nat → Int32 → Int32 → Mm → Prop → Int32 × Mm × Prop) (hk16 : ∀ (l0 : Nat) (l1 : Nat) (l2 : Int32) (l3 : Nat) (l4 : Int32) (l5 : Int32) (m : Mm) (o : Prop), Mh wI l E mi_X10_readFrom c0 s0 16 [(0, .ref l0), (1, .ref l1), (2, .int l2), (3, .ref l3), (4, .int l4), (5, .int l5)] [] m o (k16 l0 l1 l2 l3 l4 l5 m o)) (l0 : Nat) (l1 : Nat) (l2 : Int32) (l3 : Nat) (l4 : Int32) (l5 : Int32) (y2 : Int32) (y1 : Int32) (y0 : Nat) (m : Mm) (o : Prop) : Mh wI l E mi_X10_readFrom c0 s0 86 [(0, .ref l0), (1, .ref l1), (2, .int l2), (3, .ref l3), (4, .int l4), (5, .int l5)] [.int y2, .int y1, .ref y0] m o (f_X10_readFrom_86 k16 l0 l1 l2 l3 l4 l5 y2 y1 y0 m o) := by
  refine Mh_ias dX10_readFrom_86 ?_
  exact t_X10_readFrom_87 l E c0 s0 k16 hk16 _ _ _ _ _ _ _ _
def f_X10_readFrom_70 (k16 : Nat → Nat → Int32 → Nat → Int32 → Int32 → Mm → Prop → Int32 × Mm × Prop) (l0 : Nat) (l1 : Nat) (l2 : Int32) (l3 : Nat) (l4 : Int32) (l5 : Int32) (m : Mm) (o : Prop) : Int32 × Mm × Prop := bnd (F_X9_byteAt l1 (((3 : Int32) * l5) + (2 : Int32)) m ((o ∧ (gT m l0 = 10 ∧ gR m l0 2 ≠ 0)) ∧ gT m l1 = 9)) (fun v1 m1 o1 => f_X10_readFrom_86 k16 l0 l1 l2 l3 l4 l5 v1 l5 (gR m l0 2) m1 o1)
set_option maxRecDepth 10000 in
theorem t_X10_readFrom_70 (l : Launch) (E : En) (c0 s0 : Nat) (k16 : Nat → Nat → Int32 → Nat → Int32 → Int32 → Mm → Prop → Int32 × Mm × Prop) (hk16 : ∀ (l0 : Nat) (l1 : Nat) (l2 : Int32) (l3 : Nat) (l4 : Int32) (l5 : Int32) (m : Mm) (o : Prop), Mh wI l E mi_X10_readFrom c0 s0 16 [(0, .ref l0), (1, .ref l1), (2, .int l2), (3, .ref l3), (4, .int l4), (5, .int l5)] [] m o (k16 l0 l1 l2 l3 l4 l5 m o)) (l0 : Nat) (l1 : Nat) (l2 : Int32) (l3 : Nat) (l4 : Int32) (l5 : Int32) (m : Mm) (o : Prop) : Mh wI l E mi_X10_readFrom c0 s0 70 [(0, .ref l0), (1, .ref l1), (2, .int l2), (3, .ref l3), (4, .int l4), (5, .int l5)] [] m o (f_X10_readFrom_70 k16 l0 l1 l2 l3 l4 l5 m o) := by
  refine Mh_aload_n 0 rfl dX10_readFrom_70 ?_
  refine Mh_gR fd_9_2 fl_RX10_18 dX10_readFrom_71 ?_
  refine Mh_iload 5 rfl dX10_readFrom_74 ?_
  refine Mh_aload_n 1 rfl dX10_readFrom_76 ?_
  refine Mh_iconst (v := 3) dX10_readFrom_77 (by decide) ?_
  refine Mh_iload 5 rfl dX10_readFrom_78 ?_
  refine Mh_imul dX10_readFrom_80 ?_
  refine Mh_iconst (v := 2) dX10_readFrom_81 (by decide) ?_
  refine Mh_iadd dX10_readFrom_82 ?_
  refine Mh_cvI (N := mi_X9_byteAt) (q := l1) (ci := 8) (as := [.int (((3 : Int32) * l5) + (2 : Int32))]) (st := [.int l5, .ref (gR m l0 2)]) (id) cg_yX9_byteAt (by decide) rfl rfl ml_RX10_32 iv_yX9_byteAt pd_yX9_byteAt rfl (by decide) (Nat.le_of_ble_eq_true rfl) rfl dX10_readFrom_83 (T_X9_byteAt l E _ _ _ _) rfl ?_
  exact t_X10_readFrom_86 l E c0 s0 k16 hk16 _ _ _ _ _ _ _ _ _ _ _
def f_X10_readFrom_69 (k16 : Nat → Nat → Int32 → Nat → Int32 → Int32 → Mm → Prop → Int32 × Mm × Prop) (l0 : Nat) (l1 : Nat) (l2 : Int32) (l3 : Nat) (l4 : Int32) (l5 : Int32) (y2 : Int32) (y1 : Int32) (y0 : Nat) (m : Mm) (o : Prop) : Int32 × Mm × Prop := f_X10_readFrom_70 k16 l0 l1 l2 l3 l4 l5 (sI m y0 (ix y1) y2) (o ∧ (gT m y0 = 20 ∧ vp_in y1 (gN m y0)))
set_option maxRecDepth 10000 in
theorem t_X10_readFrom_69 (l : Launch) (E : En) (c0 s0 : Nat) (k16 : Nat → Nat → Int32 → Nat → Int32 → Int32 → Mm → Prop → Int32 × Mm × Prop) (hk16 : ∀ (l0 : Nat) (l1 : Nat) (l2 : Int32) (l3 : Nat) (l4 : Int32) (l5 : Int32) (m : Mm) (o : Prop), Mh wI l E mi_X10_readFrom c0 s0 16 [(0, .ref l0), (1, .ref l1), (2, .int l2), (3, .ref l3), (4, .int l4), (5, .int l5)] [] m o (k16 l0 l1 l2 l3 l4 l5 m o)) (l0 : Nat) (l1 : Nat) (l2 : Int32) (l3 : Nat) (l4 : Int32) (l5 : Int32) (y2 : Int32) (y1 : Int32) (y0 : Nat) (m : Mm) (o : Prop) : Mh wI l E mi_X10_readFrom c0 s0 69 [(0, .ref l0), (1, .ref l1), (2, .int l2), (3, .ref l3), (4, .int l4), (5, .int l5)] [.int y2, .int y1, .ref y0] m o (f_X10_readFrom_69 k16 l0 l1 l2 l3 l4 l5 y2 y1 y0 m o) := by
  refine Mh_ias dX10_readFrom_69 ?_
  exact t_X10_readFrom_70 l E c0 s0 k16 hk16 _ _ _ _ _ _ _ _
def f_X10_readFrom_49 (k16 : Nat → Nat → Int32 → Nat → Int32 → Int32 → Mm → Prop → Int32 × Mm × Prop) (l0 : Nat) (l1 : Nat) (l2 : Int32) (l3 : Nat) (l4 : Int32) (l5 : Int32) (l6 : Int32) (m : Mm) (o : Prop) : Int32 × Mm × Prop := if l6 = (255 : Int32) then (f_X10_readFrom_69 k16 l0 l1 l2 l3 l4 l5 (-1 : Int32) l5 (gR m l0 1) m (o ∧ (gT m l0 = 10 ∧ gR m l0 1 ≠ 0))) else (f_X10_readFrom_69 k16 l0 l1 l2 l3 l4 l5 l6 l5 (gR m l0 1) m (o ∧ (gT m l0 = 10 ∧ gR m l0 1 ≠ 0)))
set_option maxRecDepth 10000 in
theorem t_X10_readFrom_49 (l : Launch) (E : En) (c0 s0 : Nat) (k16 : Nat → Nat → Int32 → Nat → Int32 → Int32 → Mm → Prop → Int32 × Mm × Prop) (hk16 : ∀ (l0 : Nat) (l1 : Nat) (l2 : Int32) (l3 : Nat) (l4 : Int32) (l5 : Int32) (m : Mm) (o : Prop), Mh wI l E mi_X10_readFrom c0 s0 16 [(0, .ref l0), (1, .ref l1), (2, .int l2), (3, .ref l3), (4, .int l4), (5, .int l5)] [] m o (k16 l0 l1 l2 l3 l4 l5 m o)) (l0 : Nat) (l1 : Nat) (l2 : Int32) (l3 : Nat) (l4 : Int32) (l5 : Int32) (l6 : Int32) (m : Mm) (o : Prop) : Mh wI l E mi_X10_readFrom c0 s0 49 [(0, .ref l0), (1, .ref l1), (2, .int l2), (3, .ref l3), (4, .int l4), (5, .int l5), (6, .int l6)] [] m o (f_X10_readFrom_49 k16 l0 l1 l2 l3 l4 l5 l6 m o) := by
  refine Mh_aload_n 0 rfl dX10_readFrom_49 ?_
  refine Mh_gR fd_9_1 fl_RX10_15 dX10_readFrom_50 ?_
  refine Mh_iload 5 rfl dX10_readFrom_53 ?_
  refine Mh_iload 6 rfl dX10_readFrom_55 ?_
  refine Mh_sipush (v := 255) dX10_readFrom_57 (by decide) ?_
  refine Mh_icmp_ne (tgt := 67) dX10_readFrom_60 (by decide) rfl (fun _ => ?_) (fun _ => ?_)
  · refine Mh_iload 6 rfl dX10_readFrom_67 ?_
    refine Mh_sub (lv' := [(0, .ref l0), (1, .ref l1), (2, .int l2), (3, .ref l3), (4, .int l4), (5, .int l5)]) [0, 1, 2, 3, 4, 5] rfl ?_
    exact t_X10_readFrom_69 l E c0 s0 k16 hk16 _ _ _ _ _ _ _ _ _ _ _
  · refine Mh_iconst (v := (-1)) dX10_readFrom_63 (by decide) ?_
    refine Mh_goto (tgt := 69) dX10_readFrom_64 (by decide) ?_
    refine Mh_sub (lv' := [(0, .ref l0), (1, .ref l1), (2, .int l2), (3, .ref l3), (4, .int l4), (5, .int l5)]) [0, 1, 2, 3, 4, 5] rfl ?_
    exact t_X10_readFrom_69 l E c0 s0 k16 hk16 _ _ _ _ _ _ _ _ _ _ _
def f_X10_readFrom_48 (k16 : Nat → Nat → Int32 → Nat → Int32 → Int32 → Mm → Prop → Int32 × Mm × Prop) (l0 : Nat) (l1 : Nat) (l2 : Int32) (l3 : Nat) (l4 : Int32) (l5 : Int32) (l6 : Int32) (y2 : Int32) (y1 : Int32) (y0 : Nat) (m : Mm) (o : Prop) : Int32 × Mm × Prop := f_X10_readFrom_49 k16 l0 l1 l2 l3 l4 l5 l6 (sI m y0 (ix y1) y2) (o ∧ (gT m y0 = 20 ∧ vp_in y1 (gN m y0)))
set_option maxRecDepth 10000 in
theorem t_X10_readFrom_48 (l : Launch) (E : En) (c0 s0 : Nat) (k16 : Nat → Nat → Int32 → Nat → Int32 → Int32 → Mm → Prop → Int32 × Mm × Prop) (hk16 : ∀ (l0 : Nat) (l1 : Nat) (l2 : Int32) (l3 : Nat) (l4 : Int32) (l5 : Int32) (m : Mm) (o : Prop), Mh wI l E mi_X10_readFrom c0 s0 16 [(0, .ref l0), (1, .ref l1), (2, .int l2), (3, .ref l3), (4, .int l4), (5, .int l5)] [] m o (k16 l0 l1 l2 l3 l4 l5 m o)) (l0 : Nat) (l1 : Nat) (l2 : Int32) (l3 : Nat) (l4 : Int32) (l5 : Int32) (l6 : Int32) (y2 : Int32) (y1 : Int32) (y0 : Nat) (m : Mm) (o : Prop) : Mh wI l E mi_X10_readFrom c0 s0 48 [(0, .ref l0), (1, .ref l1), (2, .int l2), (3, .ref l3), (4, .int l4), (5, .int l5), (6, .int l6)] [.int y2, .int y1, .ref y0] m o (f_X10_readFrom_48 k16 l0 l1 l2 l3 l4 l5 l6 y2 y1 y0 m o) := by
  refine Mh_ias dX10_readFrom_48 ?_
  exact t_X10_readFrom_49 l E c0 s0 k16 hk16 _ _ _ _ _ _ _ _ _
def f_X10_readFrom_32 (k16 : Nat → Nat → Int32 → Nat → Int32 → Int32 → Mm → Prop → Int32 × Mm × Prop) (l0 : Nat) (l1 : Nat) (l2 : Int32) (l3 : Nat) (l4 : Int32) (l5 : Int32) (y0 : Int32) (m : Mm) (o : Prop) : Int32 × Mm × Prop := bnd (F_X9_byteAt l1 ((3 : Int32) * l5) m ((o ∧ (gT m l0 = 10 ∧ gR m l0 0 ≠ 0)) ∧ gT m l1 = 9)) (fun v1 m1 o1 => f_X10_readFrom_48 k16 l0 l1 l2 l3 l4 l5 y0 v1 l5 (gR m l0 0) m1 o1)
set_option maxRecDepth 10000 in
theorem t_X10_readFrom_32 (l : Launch) (E : En) (c0 s0 : Nat) (k16 : Nat → Nat → Int32 → Nat → Int32 → Int32 → Mm → Prop → Int32 × Mm × Prop) (hk16 : ∀ (l0 : Nat) (l1 : Nat) (l2 : Int32) (l3 : Nat) (l4 : Int32) (l5 : Int32) (m : Mm) (o : Prop), Mh wI l E mi_X10_readFrom c0 s0 16 [(0, .ref l0), (1, .ref l1), (2, .int l2), (3, .ref l3), (4, .int l4), (5, .int l5)] [] m o (k16 l0 l1 l2 l3 l4 l5 m o)) (l0 : Nat) (l1 : Nat) (l2 : Int32) (l3 : Nat) (l4 : Int32) (l5 : Int32) (y0 : Int32) (m : Mm) (o : Prop) : Mh wI l E mi_X10_readFrom c0 s0 32 [(0, .ref l0), (1, .ref l1), (2, .int l2), (3, .ref l3), (4, .int l4), (5, .int l5)] [.int y0] m o (f_X10_readFrom_32 k16 l0 l1 l2 l3 l4 l5 y0 m o) := by
  refine Mh_istore (lv' := [(6, .int y0), (0, .ref l0), (1, .ref l1), (2, .int l2), (3, .ref l3), (4, .int l4), (5, .int l5)]) dX10_readFrom_32 (Nat.le_of_ble_eq_true rfl) rfl ?_
  refine Mh_aload_n 1 rfl dX10_readFrom_34 ?_
  refine Mh_gR fd_9_0 fl_RX10_11 dX10_readFrom_35 ?_
  refine Mh_iload 6 rfl dX10_readFrom_38 ?_
  refine Mh_aload_n 2 rfl dX10_readFrom_40 ?_
  refine Mh_iconst (v := 3) dX10_readFrom_41 (by decide) ?_
  refine Mh_iload 6 rfl dX10_readFrom_42 ?_
  refine Mh_imul dX10_readFrom_44 ?_
  refine Mh_cvI (N := mi_X9_byteAt) (q := l1) (ci := 8) (as := [.int ((3 : Int32) * l5)]) (st := [.int l5, .ref (gR m l0 0)]) (id) cg_yX9_byteAt (by decide) rfl rfl ml_RX10_32 iv_yX9_byteAt pd_yX9_byteAt rfl (by decide) (Nat.le_of_ble_eq_true rfl) rfl dX10_readFrom_45 (T_X9_byteAt l E _ _ _ _) rfl ?_
  refine Mh_sub (lv' := [(0, .ref l0), (1, .ref l1), (2, .int l2), (3, .ref l3), (4, .int l4), (5, .int l5), (6, .int y0)]) [1, 2, 3, 4, 5, 6, 0] rfl ?_
  exact t_X10_readFrom_48 l E c0 s0 k16 hk16 _ _ _ _ _ _ _ _ _ _ _ _
def f_X10_readFrom_16b (k16 : Nat → Nat → Int32 → Nat → Int32 → Int32 → Mm → Prop → Int32 × Mm × Prop) (l0 : Nat) (l1 : Nat) (l2 : Int32) (l3 : Nat) (l4 : Int32) (l5 : Int32) (m : Mm) (o : Prop) : Int32 × Mm × Prop := if l2 ≤ l5 then (l4, m, o ∧ (l4 = 0 ∨ l4 = 1)) else (bnd (F_X9_byteAt l1 (((3 : Int32) * l5) + (1 : Int32)) m (o ∧ gT m l1 = 9)) (fun v1 m1 o1 => f_X10_readFrom_32 k16 l0 l1 l2 l3 l4 l5 v1 m1 o1))
set_option maxRecDepth 10000 in
theorem t_X10_readFrom_16b (l : Launch) (E : En) (c0 s0 : Nat) (k16 : Nat → Nat → Int32 → Nat → Int32 → Int32 → Mm → Prop → Int32 × Mm × Prop) (hk16 : ∀ (l0 : Nat) (l1 : Nat) (l2 : Int32) (l3 : Nat) (l4 : Int32) (l5 : Int32) (m : Mm) (o : Prop), Mh wI l E mi_X10_readFrom c0 s0 16 [(0, .ref l0), (1, .ref l1), (2, .int l2), (3, .ref l3), (4, .int l4), (5, .int l5)] [] m o (k16 l0 l1 l2 l3 l4 l5 m o)) (l0 : Nat) (l1 : Nat) (l2 : Int32) (l3 : Nat) (l4 : Int32) (l5 : Int32) (m : Mm) (o : Prop) : Mh wI l E mi_X10_readFrom c0 s0 16 [(0, .ref l0), (1, .ref l1), (2, .int l2), (3, .ref l3), (4, .int l4), (5, .int l5)] [] m o (f_X10_readFrom_16b k16 l0 l1 l2 l3 l4 l5 m o) := by
  refine Mh_iload 5 rfl dX10_readFrom_16 ?_
  refine Mh_iload_n 2 rfl dX10_readFrom_18 ?_
  refine Mh_icmp_ge (tgt := 163) dX10_readFrom_19 (by decide) rfl (fun _ => ?_) (fun _ => ?_)
  · refine Mh_iload 4 rfl dX10_readFrom_163 ?_
    exact Mh_retZ dX10_readFrom_165 (.inl rfl) rfl
  · refine Mh_aload_n 1 rfl dX10_readFrom_22 ?_
    refine Mh_iconst (v := 3) dX10_readFrom_23 (by decide) ?_
    refine Mh_iload 5 rfl dX10_readFrom_24 ?_
    refine Mh_imul dX10_readFrom_26 ?_
    refine Mh_iconst (v := 1) dX10_readFrom_27 (by decide) ?_
    refine Mh_iadd dX10_readFrom_28 ?_
    refine Mh_cvI (N := mi_X9_byteAt) (q := l1) (ci := 8) (as := [.int (((3 : Int32) * l5) + (1 : Int32))]) (st := []) (id) cg_yX9_byteAt (by decide) rfl rfl ml_RX10_32 iv_yX9_byteAt pd_yX9_byteAt rfl (by decide) (Nat.le_of_ble_eq_true rfl) rfl dX10_readFrom_29 (T_X9_byteAt l E _ _ _ _) rfl ?_
    exact t_X10_readFrom_32 l E c0 s0 k16 hk16 _ _ _ _ _ _ _ _ _
def f_X10_readFrom_16 : Nat → Nat → Nat → Int32 → Nat → Int32 → Int32 → Mm → Prop → Int32 × Mm × Prop
  | 0, _, _, _, _, _, _, m, _ => (0, m, False)
  | n + 1, l0, l1, l2, l3, l4, l5, m, o => f_X10_readFrom_16b (f_X10_readFrom_16 n) l0 l1 l2 l3 l4 l5 m o
theorem t_X10_readFrom_16 (l : Launch) (E : En) (c0 s0 : Nat) : ∀ (n : Nat) (l0 : Nat) (l1 : Nat) (l2 : Int32) (l3 : Nat) (l4 : Int32) (l5 : Int32) (m : Mm) (o : Prop), Mh wI l E mi_X10_readFrom c0 s0 16 [(0, .ref l0), (1, .ref l1), (2, .int l2), (3, .ref l3), (4, .int l4), (5, .int l5)] [] m o (f_X10_readFrom_16 n l0 l1 l2 l3 l4 l5 m o)
  | 0, _, _, _, _, _, _, _, _ => Mh_out rfl
  | n + 1, l0, l1, l2, l3, l4, l5, m, o => t_X10_readFrom_16b l E c0 s0 (f_X10_readFrom_16 n) (t_X10_readFrom_16 l E c0 s0 n) l0 l1 l2 l3 l4 l5 m o
def f_X10_readFrom_10 (l0 : Nat) (l1 : Nat) (l2 : Int32) (l3 : Nat) (m : Mm) (o : Prop) : Int32 × Mm × Prop := f_X10_readFrom_16 1000 l0 l1 l2 l3 (1 : Int32) (0 : Int32) m o
set_option maxRecDepth 10000 in
theorem t_X10_readFrom_10 (l : Launch) (E : En) (c0 s0 : Nat) (l0 : Nat) (l1 : Nat) (l2 : Int32) (l3 : Nat) (m : Mm) (o : Prop) : Mh wI l E mi_X10_readFrom c0 s0 10 [(0, .ref l0), (1, .ref l1), (2, .int l2), (3, .ref l3)] [] m o (f_X10_readFrom_10 l0 l1 l2 l3 m o) := by
  refine Mh_iconst (v := 1) dX10_readFrom_10 (by decide) ?_
  refine Mh_istore (lv' := [(4, .int (1 : Int32)), (0, .ref l0), (1, .ref l1), (2, .int l2), (3, .ref l3)]) dX10_readFrom_11 (Nat.le_of_ble_eq_true rfl) rfl ?_
  refine Mh_iconst (v := 0) dX10_readFrom_13 (by decide) ?_
  refine Mh_istore (lv' := [(5, .int (0 : Int32)), (4, .int (1 : Int32)), (0, .ref l0), (1, .ref l1), (2, .int l2), (3, .ref l3)]) dX10_readFrom_14 (Nat.le_of_ble_eq_true rfl) rfl ?_
  refine Mh_sub (lv' := [(0, .ref l0), (1, .ref l1), (2, .int l2), (3, .ref l3), (4, .int (1 : Int32)), (5, .int (0 : Int32))]) [2, 3, 4, 5, 1, 0] rfl ?_
  exact t_X10_readFrom_16 l E c0 s0 _ _ _ _ _ _ _ _ _
def f_X10_readFrom_5 (l0 : Nat) (l1 : Nat) (l2 : Int32) (l3 : Nat) (m : Mm) (o : Prop) : Int32 × Mm × Prop := f_X10_readFrom_10 l0 l1 l2 l3 (sI m l0 5 (0 : Int32)) (o ∧ gT m l0 = 10)
set_option maxRecDepth 10000 in
theorem t_X10_readFrom_5 (l : Launch) (E : En) (c0 s0 : Nat) (l0 : Nat) (l1 : Nat) (l2 : Int32) (l3 : Nat) (m : Mm) (o : Prop) : Mh wI l E mi_X10_readFrom c0 s0 5 [(0, .ref l0), (1, .ref l1), (2, .int l2), (3, .ref l3)] [] m o (f_X10_readFrom_5 l0 l1 l2 l3 m o) := by
  refine Mh_aload_n 0 rfl dX10_readFrom_5 ?_
  refine Mh_iconst (v := 0) dX10_readFrom_6 (by decide) ?_
  refine Mh_pI fd_9_5 ft_9 rfl fl_RX10_29 rfl dX10_readFrom_7 ?_
  exact t_X10_readFrom_10 l E c0 s0 _ _ _ _ _ _
def f_X10_readFrom_0 (l0 : Nat) (l1 : Nat) (l2 : Int32) (l3 : Nat) (m : Mm) (o : Prop) : Int32 × Mm × Prop := f_X10_readFrom_5 l0 l1 l2 l3 (sI m l0 4 l2) (o ∧ gT m l0 = 10)
set_option maxRecDepth 10000 in
theorem t_X10_readFrom_0 (l : Launch) (E : En) (c0 s0 : Nat) (l0 : Nat) (l1 : Nat) (l2 : Int32) (l3 : Nat) (m : Mm) (o : Prop) : Mh wI l E mi_X10_readFrom c0 s0 0 [(0, .ref l0), (1, .ref l1), (2, .int l2), (3, .ref l3)] [] m o (f_X10_readFrom_0 l0 l1 l2 l3 m o) := by
  refine Mh_aload_n 0 rfl dX10_readFrom_0 ?_
  refine Mh_iload_n 2 rfl dX10_readFrom_1 ?_
  refine Mh_pI fd_9_4 ft_9 rfl fl_RX10_25 rfl dX10_readFrom_2 ?_
  exact t_X10_readFrom_5 l E c0 s0 _ _ _ _ _ _
def F_X10_readFrom (a0 : Nat) (a1 : Nat) (a2 : Int32) (a3 : Nat) (m : Mm) (o : Prop) : Int32 × Mm × Prop := f_X10_readFrom_0 a0 a1 a2 a3 m o
theorem T_X10_readFrom (l : Launch) (E : En) (a0 : Nat) (a1 : Nat) (a2 : Int32) (a3 : Nat) (m : Mm) (o : Prop) : Mt wI l E yX10_readFrom mi_X10_readFrom [.ref a0, .ref a1, .int a2, .ref a3] m o (F_X10_readFrom a0 a1 a2 a3 m o) :=
  Mt_I (by decide) rfl rfl rfl (Nat.le_of_ble_eq_true rfl) rfl (.inr (.inl rfl)) (t_X10_readFrom_0 l E _ _ _ _ _ _ _ _)
def f_X11_salted_32 (m : Mm) (o : Prop) : Int32 × Mm × Prop := ((-3 : Int32), m, o)
set_option maxRecDepth 10000 in
theorem t_X11_salted_32 (l : Launch) (E : En) (c0 s0 : Nat) (m : Mm) (o : Prop) : Mh wI l E mi_X11_salted c0 s0 32 [] [] m o (f_X11_salted_32  m o) := by
  refine Mh_bipush (v := (-3)) dX11_salted_32 (by decide) ?_
  exact Mh_ret dX11_salted_34 rfl (fun _ => rfl) rfl
def f_X11_salted_115 (y0 : Int32) (m : Mm) (o : Prop) : Int32 × Mm × Prop := (y0, m, o)
set_option maxRecDepth 10000 in
theorem t_X11_salted_115 (l : Launch) (E : En) (c0 s0 : Nat) (y0 : Int32) (m : Mm) (o : Prop) : Mh wI l E mi_X11_salted c0 s0 115 [] [.int y0] m o (f_X11_salted_115 y0 m o) := by
  exact Mh_ret dX11_salted_115 rfl (fun _ => rfl) rfl
def f_X11_salted_81 (l0 : Nat) (l2 : Int32) (m : Mm) (o : Prop) : Int32 × Mm × Prop := if l2 = 0 then (gI m (gR m l0 6) 6, m, ((o ∧ (gT m l0 = 11 ∧ gR m l0 6 ≠ 0)) ∧ gT m (gR m l0 6) = 10)) else (if l2 = (1 : Int32) then (f_X11_salted_115 (gI m (gR m l0 6) 7) m ((o ∧ (gT m l0 = 11 ∧ gR m l0 6 ≠ 0)) ∧ gT m (gR m l0 6) = 10)) else (f_X11_salted_115 (gI m (gR m l0 6) 8) m ((o ∧ (gT m l0 = 11 ∧ gR m l0 6 ≠ 0)) ∧ gT m (gR m l0 6) = 10)))
set_option maxRecDepth 10000 in
theorem t_X11_salted_81 (l : Launch) (E : En) (c0 s0 : Nat) (l0 : Nat) (l2 : Int32) (m : Mm) (o : Prop) : Mh wI l E mi_X11_salted c0 s0 81 [(0, .ref l0), (2, .int l2)] [] m o (f_X11_salted_81 l0 l2 m o) := by
  refine Mh_iload_n 1 rfl dX11_salted_81 ?_
  refine Mh_if_ne (tgt := 93) dX11_salted_82 (by decide) rfl (fun _ => ?_) (fun _ => ?_)
  · refine Mh_iload_n 1 rfl dX11_salted_93 ?_
    refine Mh_iconst (v := 1) dX11_salted_94 (by decide) ?_
    refine Mh_icmp_ne (tgt := 108) dX11_salted_95 (by decide) rfl (fun _ => ?_) (fun _ => ?_)
    · refine Mh_aload_n 0 rfl dX11_salted_108 ?_
      refine Mh_gR fd_10_6 fl_RX11_50 dX11_salted_109 ?_
      refine Mh_gI fd_9_8 fl_RX11_292 dX11_salted_112 ?_
      refine Mh_sub (lv' := []) [] rfl ?_
      exact t_X11_salted_115 l E c0 s0 _ _ _
    · refine Mh_aload_n 0 rfl dX11_salted_98 ?_
      refine Mh_gR fd_10_6 fl_RX11_50 dX11_salted_99 ?_
      refine Mh_gI fd_9_7 fl_RX11_289 dX11_salted_102 ?_
      refine Mh_goto (tgt := 115) dX11_salted_105 (by decide) ?_
      refine Mh_sub (lv' := []) [] rfl ?_
      exact t_X11_salted_115 l E c0 s0 _ _ _
  · refine Mh_aload_n 0 rfl dX11_salted_85 ?_
    refine Mh_gR fd_10_6 fl_RX11_50 dX11_salted_86 ?_
    refine Mh_gI fd_9_6 fl_RX11_286 dX11_salted_89 ?_
    exact Mh_ret dX11_salted_92 rfl (fun _ => rfl) rfl
def f_X11_salted_59 (l0 : Nat) (l2 : Int32) (l3 : Int32) (m : Mm) (o : Prop) : Int32 × Mm × Prop := if l3 = 0 then ((-2 : Int32), m, o) else (bnd (F_X10_findFits (gR m l0 6) (gR m l0 0) (gR m l0 9) m ((((o ∧ (gT m l0 = 11 ∧ gR m l0 6 ≠ 0)) ∧ (gT m l0 = 11 ∧ gR m l0 0 ≠ 0)) ∧ (gT m l0 = 11 ∧ gR m l0 9 ≠ 0)) ∧ gT m (gR m l0 6) = 10)) (fun _ m1 o1 => f_X11_salted_81 l0 l2 m1 o1))
set_option maxRecDepth 10000 in
theorem t_X11_salted_59 (l : Launch) (E : En) (c0 s0 : Nat) (l0 : Nat) (l2 : Int32) (l3 : Int32) (m : Mm) (o : Prop) : Mh wI l E mi_X11_salted c0 s0 59 [(0, .ref l0), (2, .int l2), (3, .int l3)] [] m o (f_X11_salted_59 l0 l2 l3 m o) := by
  refine Mh_iload_n 2 rfl dX11_salted_59 ?_
  refine Mh_if_ne (tgt := 66) dX11_salted_60 (by decide) rfl (fun _ => ?_) (fun _ => ?_)
  · refine Mh_aload_n 0 rfl dX11_salted_66 ?_
    refine Mh_gR fd_10_6 fl_RX11_50 dX11_salted_67 ?_
    refine Mh_aload_n 0 rfl dX11_salted_70 ?_
    refine Mh_gR fd_10_0 fl_RX11_10 dX11_salted_71 ?_
    refine Mh_aload_n 0 rfl dX11_salted_74 ?_
    refine Mh_gR fd_10_9 fl_RX11_71 dX11_salted_75 ?_
    refine Mh_cvU (N := mi_X10_findFits) (q := gR m l0 6) (ci := 9) (as := [.ref (gR m l0 0), .ref (gR m l0 9)]) (st := []) (id) cg_yX10_findFits (by decide) rfl rfl ml_RX11_282 iv_yX10_findFits pd_yX10_findFits rfl (by decide) (Nat.le_of_ble_eq_true rfl) rfl dX11_salted_78 (T_X10_findFits l E _ _ _ _ _) rfl ?_
    refine Mh_sub (lv' := [(0, .ref l0), (2, .int l2)]) [0, 1] rfl ?_
    exact t_X11_salted_81 l E c0 s0 _ _ _ _
  · refine Mh_bipush (v := (-2)) dX11_salted_63 (by decide) ?_
    exact Mh_ret dX11_salted_65 rfl (fun _ => rfl) rfl
def f_X11_salted_51 (l0 : Nat) (l2 : Int32) (y0 : Int32) (m : Mm) (o : Prop) : Int32 × Mm × Prop := bnd (F_X9_empty (gR m l0 3) m ((o ∧ (gT m l0 = 11 ∧ gR m l0 3 ≠ 0)) ∧ gT m (gR m l0 3) = 9)) (fun _ m1 o1 => f_X11_salted_59 l0 l2 y0 m1 o1)
set_option maxRecDepth 10000 in
theorem t_X11_salted_51 (l : Launch) (E : En) (c0 s0 : Nat) (l0 : Nat) (l2 : Int32) (y0 : Int32) (m : Mm) (o : Prop) : Mh wI l E mi_X11_salted c0 s0 51 [(0, .ref l0), (2, .int l2)] [.int y0] m o (f_X11_salted_51 l0 l2 y0 m o) := by
  refine Mh_istore_n (lv' := [(3, .int y0), (0, .ref l0), (2, .int l2)]) dX11_salted_51 (Nat.le_of_ble_eq_true rfl) rfl ?_
  refine Mh_aload_n 1 rfl dX11_salted_52 ?_
  refine Mh_gR fd_10_3 fl_RX11_25 dX11_salted_53 ?_
  refine Mh_cvU (N := mi_X9_empty) (q := gR m l0 3) (ci := 8) (as := []) (st := []) (id) cg_yX9_empty (by decide) rfl rfl ml_RX11_149 iv_yX9_empty pd_yX9_empty rfl (by decide) (Nat.le_of_ble_eq_true rfl) rfl dX11_salted_56 (T_X9_empty l E _ _ _) rfl ?_
  refine Mh_sub (lv' := [(0, .ref l0), (2, .int l2), (3, .int y0)]) [1, 2, 0] rfl ?_
  exact t_X11_salted_59 l E c0 s0 _ _ _ _ _
def f_X11_salted_16 (l0 : Nat) (l1 : Int32) (l2 : Int32) (y0 : Int32) (m : Mm) (o : Prop) : Int32 × Mm × Prop := if y0 = 0 then (f_X11_salted_32  m o) else (if ((3 : Int32) * l1) ≤ (gI m (gR m l0 3) 1) then (bnd (F_X10_readFrom (gR m l0 6) (gR m l0 3) l1 (gR m l0 0) m (((((o ∧ (gT m l0 = 11 ∧ gR m l0 3 ≠ 0)) ∧ gT m (gR m l0 3) = 9) ∧ (gT m l0 = 11 ∧ gR m l0 6 ≠ 0)) ∧ (gT m l0 = 11 ∧ gR m l0 0 ≠ 0)) ∧ gT m (gR m l0 6) = 10)) (fun v1 m1 o1 => f_X11_salted_51 l0 l2 v1 m1 o1)) else (f_X11_salted_32  m ((o ∧ (gT m l0 = 11 ∧ gR m l0 3 ≠ 0)) ∧ gT m (gR m l0 3) = 9)))
set_option maxRecDepth 10000 in
theorem t_X11_salted_16 (l : Launch) (E : En) (c0 s0 : Nat) (l0 : Nat) (l1 : Int32) (l2 : Int32) (y0 : Int32) (m : Mm) (o : Prop) : Mh wI l E mi_X11_salted c0 s0 16 [(0, .ref l0), (1, .int l1), (2, .int l2)] [.int y0] m o (f_X11_salted_16 l0 l1 l2 y0 m o) := by
  refine Mh_if_eq (tgt := 32) dX11_salted_16 (by decide) rfl (fun _ => ?_) (fun _ => ?_)
  · refine Mh_sub (lv' := []) [] rfl ?_
    exact t_X11_salted_32 l E c0 s0  _ _
  · refine Mh_iconst (v := 3) dX11_salted_19 (by decide) ?_
    refine Mh_iload_n 1 rfl dX11_salted_20 ?_
    refine Mh_imul dX11_salted_21 ?_
    refine Mh_aload_n 0 rfl dX11_salted_22 ?_
    refine Mh_gR fd_10_3 fl_RX11_25 dX11_salted_23 ?_
    refine Mh_gI fd_8_1 fl_RX11_138 dX11_salted_26 ?_
    refine Mh_icmp_le (tgt := 35) dX11_salted_29 (by decide) rfl (fun _ => ?_) (fun _ => ?_)
    · refine Mh_aload_n 0 rfl dX11_salted_35 ?_
      refine Mh_gR fd_10_6 fl_RX11_50 dX11_salted_36 ?_
      refine Mh_aload_n 0 rfl dX11_salted_39 ?_
      refine Mh_gR fd_10_3 fl_RX11_25 dX11_salted_40 ?_
      refine Mh_ok (fun h => h.1.1.2) ?_
      refine Mh_iload_n 1 rfl dX11_salted_43 ?_
      refine Mh_aload_n 0 rfl dX11_salted_44 ?_
      refine Mh_gR fd_10_0 fl_RX11_10 dX11_salted_45 ?_
      refine Mh_cvI (N := mi_X10_readFrom) (q := gR m l0 6) (ci := 9) (as := [.ref (gR m l0 3), .int l1, .ref (gR m l0 0)]) (st := []) (id) cg_yX10_readFrom (by decide) rfl rfl ml_RX11_278 iv_yX10_readFrom pd_yX10_readFrom rfl (by decide) (Nat.le_of_ble_eq_true rfl) rfl dX11_salted_48 (T_X10_readFrom l E _ _ _ _ _ _) rfl ?_
      refine Mh_sub (lv' := [(0, .ref l0), (2, .int l2)]) [0, 2] rfl ?_
      exact t_X11_salted_51 l E c0 s0 _ _ _ _ _
    · refine Mh_sub (lv' := []) [] rfl ?_
      exact t_X11_salted_32 l E c0 s0  _ _
def f_X11_salted_7 (l0 : Nat) (l1 : Int32) (l2 : Int32) (y0 : Int32) (m : Mm) (o : Prop) : Int32 × Mm × Prop := if y0 = 0 then (f_X11_salted_32  m o) else (bnd (F_X11_isWithin l2 (0 : Int32) (2 : Int32) m o) (fun v1 m1 o1 => f_X11_salted_16 l0 l1 l2 v1 m1 o1))
set_option maxRecDepth 10000 in
theorem t_X11_salted_7 (l : Launch) (E : En) (c0 s0 : Nat) (l0 : Nat) (l1 : Int32) (l2 : Int32) (y0 : Int32) (m : Mm) (o : Prop) : Mh wI l E mi_X11_salted c0 s0 7 [(0, .ref l0), (1, .int l1), (2, .int l2)] [.int y0] m o (f_X11_salted_7 l0 l1 l2 y0 m o) := by
  refine Mh_if_eq (tgt := 32) dX11_salted_7 (by decide) rfl (fun _ => ?_) (fun _ => ?_)
  · refine Mh_sub (lv' := []) [] rfl ?_
    exact t_X11_salted_32 l E c0 s0  _ _
  · refine Mh_iload_n 2 rfl dX11_salted_10 ?_
    refine Mh_iconst (v := 0) dX11_salted_11 (by decide) ?_
    refine Mh_iconst (v := 2) dX11_salted_12 (by decide) ?_
    refine Mh_csI (N := mi_X11_isWithin) (as := [.int l2, .int (0 : Int32), .int (2 : Int32)]) (st := []) cg_yX11_isWithin (.inl ml_RX11_90) sv_yX11_isWithin pd_yX11_isWithin rfl (by decide) (Nat.le_of_ble_eq_true rfl) rfl dX11_salted_13 (T_X11_isWithin l E _ _ _ _ _) rfl ?_
    exact t_X11_salted_16 l E c0 s0 _ _ _ _ _ _
def f_X11_salted_0 (l0 : Nat) (l1 : Int32) (l2 : Int32) (m : Mm) (o : Prop) : Int32 × Mm × Prop := bnd (F_X11_isWithin l1 (1 : Int32) (30 : Int32) m o) (fun v1 m1 o1 => f_X11_salted_7 l0 l1 l2 v1 m1 o1)
set_option maxRecDepth 10000 in
theorem t_X11_salted_0 (l : Launch) (E : En) (c0 s0 : Nat) (l0 : Nat) (l1 : Int32) (l2 : Int32) (m : Mm) (o : Prop) : Mh wI l E mi_X11_salted c0 s0 0 [(0, .ref l0), (1, .int l1), (2, .int l2)] [] m o (f_X11_salted_0 l0 l1 l2 m o) := by
  refine Mh_iload_n 1 rfl dX11_salted_0 ?_
  refine Mh_iconst (v := 1) dX11_salted_1 (by decide) ?_
  refine Mh_bipush (v := 30) dX11_salted_2 (by decide) ?_
  refine Mh_csI (N := mi_X11_isWithin) (as := [.int l1, .int (1 : Int32), .int (30 : Int32)]) (st := []) cg_yX11_isWithin (.inl ml_RX11_90) sv_yX11_isWithin pd_yX11_isWithin rfl (by decide) (Nat.le_of_ble_eq_true rfl) rfl dX11_salted_4 (T_X11_isWithin l E _ _ _ _ _) rfl ?_
  exact t_X11_salted_7 l E c0 s0 _ _ _ _ _ _
def F_X11_salted (a0 : Nat) (a1 : Int32) (a2 : Int32) (m : Mm) (o : Prop) : Int32 × Mm × Prop := f_X11_salted_0 a0 a1 a2 m o
theorem T_X11_salted (l : Launch) (E : En) (a0 : Nat) (a1 : Int32) (a2 : Int32) (m : Mm) (o : Prop) : Mt wI l E yX11_salted mi_X11_salted [.ref a0, .int a1, .int a2] m o (F_X11_salted a0 a1 a2 m o) :=
  Mt_I (by decide) rfl rfl rfl (Nat.le_of_ble_eq_true rfl) rfl (.inl rfl) (t_X11_salted_0 l E _ _ _ _ _ _ _)
def f_X11_seat_32 (y0 : Int32) (m : Mm) (o : Prop) : Int32 × Mm × Prop := (y0, m, o)
set_option maxRecDepth 10000 in
theorem t_X11_seat_32 (l : Launch) (E : En) (c0 s0 : Nat) (y0 : Int32) (m : Mm) (o : Prop) : Mh wI l E mi_X11_seat c0 s0 32 [] [.int y0] m o (f_X11_seat_32 y0 m o) := by
  exact Mh_ret dX11_seat_32 rfl (fun _ => rfl) rfl
def f_X11_seat_24 (l0 : Nat) (l1 : Int32) (m : Mm) (o : Prop) : Int32 × Mm × Prop := bnd (F_X2_holder (gR m l0 7) l1 m ((o ∧ (gT m l0 = 11 ∧ gR m l0 7 ≠ 0)) ∧ gT m (gR m l0 7) = 3)) (fun v1 m1 o1 => f_X11_seat_32 v1 m1 o1)
set_option maxRecDepth 10000 in
theorem t_X11_seat_24 (l : Launch) (E : En) (c0 s0 : Nat) (l0 : Nat) (l1 : Int32) (m : Mm) (o : Prop) : Mh wI l E mi_X11_seat c0 s0 24 [(0, .ref l0), (1, .int l1)] [] m o (f_X11_seat_24 l0 l1 m o) := by
  refine Mh_aload_n 0 rfl dX11_seat_24 ?_
  refine Mh_gR fd_10_7 fl_RX11_57 dX11_seat_25 ?_
  refine Mh_iload_n 1 rfl dX11_seat_28 ?_
  refine Mh_cvI (N := mi_X2_holder) (q := gR m l0 7) (ci := 2) (as := [.int l1]) (st := []) (id) cg_yX2_holder (by decide) rfl rfl ml_RX11_257 iv_yX2_holder pd_yX2_holder rfl (by decide) (Nat.le_of_ble_eq_true rfl) rfl dX11_seat_29 (T_X2_holder l E _ _ _ _) rfl ?_
  refine Mh_sub (lv' := []) [] rfl ?_
  exact t_X11_seat_32 l E c0 s0 _ _ _
def f_X11_seat_6 (l0 : Nat) (l1 : Int32) (y0 : Int32) (m : Mm) (o : Prop) : Int32 × Mm × Prop := if y0 = 0 then ((-1 : Int32), m, o) else (bnd (F_X2_tally (gR m l0 7) (gR m l0 0) (5 : Int32) (5 : Int32) m (((o ∧ (gT m l0 = 11 ∧ gR m l0 7 ≠ 0)) ∧ (gT m l0 = 11 ∧ gR m l0 0 ≠ 0)) ∧ gT m (gR m l0 7) = 3)) (fun _ m1 o1 => f_X11_seat_24 l0 l1 m1 o1))
set_option maxRecDepth 10000 in
theorem t_X11_seat_6 (l : Launch) (E : En) (c0 s0 : Nat) (l0 : Nat) (l1 : Int32) (y0 : Int32) (m : Mm) (o : Prop) : Mh wI l E mi_X11_seat c0 s0 6 [(0, .ref l0), (1, .int l1)] [.int y0] m o (f_X11_seat_6 l0 l1 y0 m o) := by
  refine Mh_if_ne (tgt := 11) dX11_seat_6 (by decide) rfl (fun _ => ?_) (fun _ => ?_)
  · refine Mh_aload_n 0 rfl dX11_seat_11 ?_
    refine Mh_gR fd_10_7 fl_RX11_57 dX11_seat_12 ?_
    refine Mh_aload_n 0 rfl dX11_seat_15 ?_
    refine Mh_gR fd_10_0 fl_RX11_10 dX11_seat_16 ?_
    refine Mh_iconst (v := 5) dX11_seat_19 (by decide) ?_
    refine Mh_iconst (v := 5) dX11_seat_20 (by decide) ?_
    refine Mh_cvU (N := mi_X2_tally) (q := gR m l0 7) (ci := 2) (as := [.ref (gR m l0 0), .int (5 : Int32), .int (5 : Int32)]) (st := []) (id) cg_yX2_tally (by decide) rfl rfl ml_RX11_253 iv_yX2_tally pd_yX2_tally rfl (by decide) (Nat.le_of_ble_eq_true rfl) rfl dX11_seat_21 (T_X2_tally l E _ _ _ _ _ _) rfl ?_
    exact t_X11_seat_24 l E c0 s0 _ _ _ _
  · refine Mh_iconst (v := (-1)) dX11_seat_9 (by decide) ?_
    exact Mh_ret dX11_seat_10 rfl (fun _ => rfl) rfl
def f_X11_seat_0 (l0 : Nat) (l1 : Int32) (m : Mm) (o : Prop) : Int32 × Mm × Prop := bnd (F_X11_isWithin l1 (0 : Int32) (3 : Int32) m o) (fun v1 m1 o1 => f_X11_seat_6 l0 l1 v1 m1 o1)
set_option maxRecDepth 10000 in
theorem t_X11_seat_0 (l : Launch) (E : En) (c0 s0 : Nat) (l0 : Nat) (l1 : Int32) (m : Mm) (o : Prop) : Mh wI l E mi_X11_seat c0 s0 0 [(0, .ref l0), (1, .int l1)] [] m o (f_X11_seat_0 l0 l1 m o) := by
  refine Mh_iload_n 1 rfl dX11_seat_0 ?_
  refine Mh_iconst (v := 0) dX11_seat_1 (by decide) ?_
  refine Mh_iconst (v := 3) dX11_seat_2 (by decide) ?_
  refine Mh_csI (N := mi_X11_isWithin) (as := [.int l1, .int (0 : Int32), .int (3 : Int32)]) (st := []) cg_yX11_isWithin (.inl ml_RX11_90) sv_yX11_isWithin pd_yX11_isWithin rfl (by decide) (Nat.le_of_ble_eq_true rfl) rfl dX11_seat_3 (T_X11_isWithin l E _ _ _ _ _) rfl ?_
  exact t_X11_seat_6 l E c0 s0 _ _ _ _ _
def F_X11_seat (a0 : Nat) (a1 : Int32) (m : Mm) (o : Prop) : Int32 × Mm × Prop := f_X11_seat_0 a0 a1 m o
theorem T_X11_seat (l : Launch) (E : En) (a0 : Nat) (a1 : Int32) (m : Mm) (o : Prop) : Mt wI l E yX11_seat mi_X11_seat [.ref a0, .int a1] m o (F_X11_seat a0 a1 m o) :=
  Mt_I (by decide) rfl rfl rfl (Nat.le_of_ble_eq_true rfl) rfl (.inl rfl) (t_X11_seat_0 l E _ _ _ _ _ _)
def f_X11_seed_21 (m : Mm) (o : Prop) : Int32 × Mm × Prop := ((1 : Int32), m, o)
set_option maxRecDepth 10000 in
theorem t_X11_seed_21 (l : Launch) (E : En) (c0 s0 : Nat) (m : Mm) (o : Prop) : Mh wI l E mi_X11_seed c0 s0 21 [] [] m o (f_X11_seed_21  m o) := by
  refine Mh_iconst (v := 1) dX11_seed_21 (by decide) ?_
  exact Mh_ret dX11_seed_22 rfl (fun _ => rk1Z) rfl
def f_X11_seed_8 (l0 : Nat) (l1 : Int32) (y0 : Int32) (m : Mm) (o : Prop) : Int32 × Mm × Prop := if y0 = 0 then ((0 : Int32), m, o) else (f_X11_seed_21  (sI m (gR m l0 0) 11 l1) ((o ∧ (gT m l0 = 11 ∧ gR m l0 0 ≠ 0)) ∧ gT m (gR m l0 0) = 6))
set_option maxRecDepth 10000 in
theorem t_X11_seed_8 (l : Launch) (E : En) (c0 s0 : Nat) (l0 : Nat) (l1 : Int32) (y0 : Int32) (m : Mm) (o : Prop) : Mh wI l E mi_X11_seed c0 s0 8 [(0, .ref l0), (1, .int l1)] [.int y0] m o (f_X11_seed_8 l0 l1 y0 m o) := by
  refine Mh_if_ne (tgt := 13) dX11_seed_8 (by decide) rfl (fun _ => ?_) (fun _ => ?_)
  · refine Mh_aload_n 0 rfl dX11_seed_13 ?_
    refine Mh_gR fd_10_0 fl_RX11_10 dX11_seed_14 ?_
    refine Mh_iload_n 1 rfl dX11_seed_17 ?_
    refine Mh_pI fd_5_11 ft_5 rfl fl_RX11_299 rfl dX11_seed_18 ?_
    refine Mh_sub (lv' := []) [] rfl ?_
    exact t_X11_seed_21 l E c0 s0  _ _
  · refine Mh_iconst (v := 0) dX11_seed_11 (by decide) ?_
    exact Mh_ret dX11_seed_12 rfl (fun _ => rk0Z) rfl
def f_X11_seed_0 (l0 : Nat) (l1 : Int32) (m : Mm) (o : Prop) : Int32 × Mm × Prop := bnd (F_X11_isWithin l1 (0 : Int32) (65535 : Int32) m o) (fun v1 m1 o1 => f_X11_seed_8 l0 l1 v1 m1 o1)
set_option maxRecDepth 10000 in
theorem t_X11_seed_0 (l : Launch) (E : En) (c0 s0 : Nat) (l0 : Nat) (l1 : Int32) (m : Mm) (o : Prop) : Mh wI l E mi_X11_seed c0 s0 0 [(0, .ref l0), (1, .int l1)] [] m o (f_X11_seed_0 l0 l1 m o) := by
  refine Mh_iload_n 1 rfl dX11_seed_0 ?_
  refine Mh_iconst (v := 0) dX11_seed_1 (by decide) ?_
  refine Mh_ldcw (v := 65535) gc_RX11_298 dX11_seed_2 ?_
  refine Mh_csI (N := mi_X11_isWithin) (as := [.int l1, .int (0 : Int32), .int (65535 : Int32)]) (st := []) cg_yX11_isWithin (.inl ml_RX11_90) sv_yX11_isWithin pd_yX11_isWithin rfl (by decide) (Nat.le_of_ble_eq_true rfl) rfl dX11_seed_5 (T_X11_isWithin l E _ _ _ _ _) rfl ?_
  exact t_X11_seed_8 l E c0 s0 _ _ _ _ _
def F_X11_seed (a0 : Nat) (a1 : Int32) (m : Mm) (o : Prop) : Int32 × Mm × Prop := f_X11_seed_0 a0 a1 m o
theorem T_X11_seed (l : Launch) (E : En) (a0 : Nat) (a1 : Int32) (m : Mm) (o : Prop) : Mt wI l E yX11_seed mi_X11_seed [.ref a0, .int a1] m o (F_X11_seed a0 a1 m o) :=
  Mt_I (by decide) rfl rfl rfl (Nat.le_of_ble_eq_true rfl) rfl (.inr (.inl rfl)) (t_X11_seed_0 l E _ _ _ _ _ _)
def f_X11_share_17 (m : Mm) (o : Prop) : Int64 × Mm × Prop := ((-1 : Int64), m, o)
set_option maxRecDepth 10000 in
theorem t_X11_share_17 (l : Launch) (E : En) (c0 s0 : Nat) (m : Mm) (o : Prop) : Mh wJ l E mi_X11_share c0 s0 17 [] [] m o (f_X11_share_17  m o) := by
  refine Mh_ldc2 (v := (-1)) gl_RX11_243 dX11_share_17 ?_
  exact Mh_ret dX11_share_20 rfl (fun _ => rfl) rfl
def f_X11_share_50 (y0 : Int64) (m : Mm) (o : Prop) : Int64 × Mm × Prop := (y0, m, o)
set_option maxRecDepth 10000 in
theorem t_X11_share_50 (l : Launch) (E : En) (c0 s0 : Nat) (y0 : Int64) (m : Mm) (o : Prop) : Mh wJ l E mi_X11_share c0 s0 50 [] [.long y0] m o (f_X11_share_50 y0 m o) := by
  exact Mh_ret dX11_share_50 rfl (fun _ => rfl) rfl
def f_X11_share_41 (l2 : Int32) (l3 : Int64) (y0 : Int64) (m : Mm) (o : Prop) : Int64 × Mm × Prop := bnd (F_X11_lowestTerms l3 y0 l2 m o) (fun v1 m1 o1 => f_X11_share_50 v1 m1 o1)
set_option maxRecDepth 10000 in
theorem t_X11_share_41 (l : Launch) (E : En) (c0 s0 : Nat) (l2 : Int32) (l3 : Int64) (y0 : Int64) (m : Mm) (o : Prop) : Mh wJ l E mi_X11_share c0 s0 41 [(2, .int l2), (3, .long l3)] [.long y0] m o (f_X11_share_41 l2 l3 y0 m o) := by
  refine Mh_lstore (lv' := [(5, .long y0), (2, .int l2), (3, .long l3)]) dX11_share_41 (Nat.le_of_ble_eq_true rfl) rfl ?_
  refine Mh_lload_n 2 rfl dX11_share_43 ?_
  refine Mh_lload 0 rfl dX11_share_44 ?_
  refine Mh_iload_n 1 rfl dX11_share_46 ?_
  refine Mh_csJ (N := mi_X11_lowestTerms) (as := [.long l3, .long y0, .int l2]) (st := []) cg_yX11_lowestTerms (.inl ml_RX11_249) sv_yX11_lowestTerms pd_yX11_lowestTerms rfl (by decide) (Nat.le_of_ble_eq_true rfl) rfl dX11_share_47 (T_X11_lowestTerms l E _ _ _ _ _) rfl ?_
  refine Mh_sub (lv' := []) [] rfl ?_
  exact t_X11_share_50 l E c0 s0 _ _ _
def f_X11_share_30 (l0 : Nat) (l2 : Int32) (y0 : Int64) (m : Mm) (o : Prop) : Int64 × Mm × Prop := bnd (F_X8_factorial (gI m (gR m l0 0) 7) m ((o ∧ (gT m l0 = 11 ∧ gR m l0 0 ≠ 0)) ∧ gT m (gR m l0 0) = 6)) (fun v1 m1 o1 => f_X11_share_41 l2 y0 v1 m1 o1)
set_option maxRecDepth 10000 in
theorem t_X11_share_30 (l : Launch) (E : En) (c0 s0 : Nat) (l0 : Nat) (l2 : Int32) (y0 : Int64) (m : Mm) (o : Prop) : Mh wJ l E mi_X11_share c0 s0 30 [(0, .ref l0), (2, .int l2)] [.long y0] m o (f_X11_share_30 l0 l2 y0 m o) := by
  refine Mh_lstore_n (lv' := [(3, .long y0), (0, .ref l0), (2, .int l2)]) dX11_share_30 (Nat.le_of_ble_eq_true rfl) rfl ?_
  refine Mh_aload_n 1 rfl dX11_share_31 ?_
  refine Mh_gR fd_10_0 fl_RX11_10 dX11_share_32 ?_
  refine Mh_gI fd_5_7 fl_RX11_111 dX11_share_35 ?_
  refine Mh_csJ (N := mi_X8_factorial) (as := [.int (gI m (gR m l0 0) 7)]) (st := []) cg_yX8_factorial (.inl ml_RX11_245) sv_yX8_factorial pd_yX8_factorial rfl (by decide) (Nat.le_of_ble_eq_true rfl) rfl dX11_share_38 (T_X8_factorial l E _ _ _) rfl ?_
  refine Mh_sub (lv' := [(2, .int l2), (3, .long y0)]) [2, 0] rfl ?_
  exact t_X11_share_41 l E c0 s0 _ _ _ _ _
def f_X11_share_14 (l0 : Nat) (l1 : Int32) (l2 : Int32) (y0 : Int32) (m : Mm) (o : Prop) : Int64 × Mm × Prop := if y0 = 0 then (f_X11_share_17  m o) else (bnd (F_X8_sum (gR m l0 0) l1 (1 : Int32) m (o ∧ (gT m l0 = 11 ∧ gR m l0 0 ≠ 0))) (fun v1 m1 o1 => f_X11_share_30 l0 l2 v1 m1 o1))
set_option maxRecDepth 10000 in
theorem t_X11_share_14 (l : Launch) (E : En) (c0 s0 : Nat) (l0 : Nat) (l1 : Int32) (l2 : Int32) (y0 : Int32) (m : Mm) (o : Prop) : Mh wJ l E mi_X11_share c0 s0 14 [(0, .ref l0), (1, .int l1), (2, .int l2)] [.int y0] m o (f_X11_share_14 l0 l1 l2 y0 m o) := by
  refine Mh_if_ne (tgt := 21) dX11_share_14 (by decide) rfl (fun _ => ?_) (fun _ => ?_)
  · refine Mh_aload_n 0 rfl dX11_share_21 ?_
    refine Mh_gR fd_10_0 fl_RX11_10 dX11_share_22 ?_
    refine Mh_iload_n 1 rfl dX11_share_25 ?_
    refine Mh_iconst (v := 1) dX11_share_26 (by decide) ?_
    refine Mh_csJ (N := mi_X8_sum) (as := [.ref (gR m l0 0), .int l1, .int (1 : Int32)]) (st := []) cg_yX8_sum (.inl ml_RX11_237) sv_yX8_sum pd_yX8_sum rfl (by decide) (Nat.le_of_ble_eq_true rfl) rfl dX11_share_27 (T_X8_sum l E _ _ _ _ _) rfl ?_
    refine Mh_sub (lv' := [(0, .ref l0), (2, .int l2)]) [0, 2] rfl ?_
    exact t_X11_share_30 l E c0 s0 _ _ _ _ _
  · refine Mh_sub (lv' := []) [] rfl ?_
    exact t_X11_share_17 l E c0 s0  _ _
def f_X11_share_5 (l0 : Nat) (l1 : Int32) (l2 : Int32) (y0 : Int32) (m : Mm) (o : Prop) : Int64 × Mm × Prop := if y0 = 0 then (f_X11_share_17  m o) else (bnd (F_X11_isWithin l2 (0 : Int32) (1 : Int32) m o) (fun v1 m1 o1 => f_X11_share_14 l0 l1 l2 v1 m1 o1))
set_option maxRecDepth 10000 in
theorem t_X11_share_5 (l : Launch) (E : En) (c0 s0 : Nat) (l0 : Nat) (l1 : Int32) (l2 : Int32) (y0 : Int32) (m : Mm) (o : Prop) : Mh wJ l E mi_X11_share c0 s0 5 [(0, .ref l0), (1, .int l1), (2, .int l2)] [.int y0] m o (f_X11_share_5 l0 l1 l2 y0 m o) := by
  refine Mh_if_eq (tgt := 17) dX11_share_5 (by decide) rfl (fun _ => ?_) (fun _ => ?_)
  · refine Mh_sub (lv' := []) [] rfl ?_
    exact t_X11_share_17 l E c0 s0  _ _
  · refine Mh_iload_n 2 rfl dX11_share_8 ?_
    refine Mh_iconst (v := 0) dX11_share_9 (by decide) ?_
    refine Mh_iconst (v := 1) dX11_share_10 (by decide) ?_
    refine Mh_csI (N := mi_X11_isWithin) (as := [.int l2, .int (0 : Int32), .int (1 : Int32)]) (st := []) cg_yX11_isWithin (.inl ml_RX11_90) sv_yX11_isWithin pd_yX11_isWithin rfl (by decide) (Nat.le_of_ble_eq_true rfl) rfl dX11_share_11 (T_X11_isWithin l E _ _ _ _ _) rfl ?_
    exact t_X11_share_14 l E c0 s0 _ _ _ _ _ _
def f_X11_share_0 (l0 : Nat) (l1 : Int32) (l2 : Int32) (m : Mm) (o : Prop) : Int64 × Mm × Prop := bnd (F_X11_hasCow l0 l1 m (o ∧ gT m l0 = 11)) (fun v1 m1 o1 => f_X11_share_5 l0 l1 l2 v1 m1 o1)
set_option maxRecDepth 10000 in
theorem t_X11_share_0 (l : Launch) (E : En) (c0 s0 : Nat) (l0 : Nat) (l1 : Int32) (l2 : Int32) (m : Mm) (o : Prop) : Mh wJ l E mi_X11_share c0 s0 0 [(0, .ref l0), (1, .int l1), (2, .int l2)] [] m o (f_X11_share_0 l0 l1 l2 m o) := by
  refine Mh_aload_n 0 rfl dX11_share_0 ?_
  refine Mh_iload_n 1 rfl dX11_share_1 ?_
  refine Mh_cvI (N := mi_X11_hasCow) (q := l0) (ci := 10) (as := [.int l1]) (st := []) (id) cg_yX11_hasCow (by decide) rfl rfl ml_RX11_124 iv_yX11_hasCow pd_yX11_hasCow rfl (by decide) (Nat.le_of_ble_eq_true rfl) rfl dX11_share_2 (T_X11_hasCow l E _ _ _ _) rfl ?_
  exact t_X11_share_5 l E c0 s0 _ _ _ _ _ _
def F_X11_share (a0 : Nat) (a1 : Int32) (a2 : Int32) (m : Mm) (o : Prop) : Int64 × Mm × Prop := f_X11_share_0 a0 a1 a2 m o
theorem T_X11_share (l : Launch) (E : En) (a0 : Nat) (a1 : Int32) (a2 : Int32) (m : Mm) (o : Prop) : Mt wJ l E yX11_share mi_X11_share [.ref a0, .int a1, .int a2] m o (F_X11_share a0 a1 a2 m o) :=
  Mt_J (by decide) rfl rfl rfl (Nat.le_of_ble_eq_true rfl) rfl (t_X11_share_0 l E _ _ _ _ _ _ _)
def f_X5_hasStackOn_50 (k2 : Nat → Int32 → Int32 → Int32 → Mm → Prop → Int32 × Mm × Prop) (l0 : Nat) (l1 : Int32) (l2 : Int32) (l3 : Int32) (m : Mm) (o : Prop) : Int32 × Mm × Prop := k2 l0 l1 l2 (l3 + 1) m o
set_option maxRecDepth 10000 in
theorem t_X5_hasStackOn_50 (l : Launch) (E : En) (c0 s0 : Nat) (k2 : Nat → Int32 → Int32 → Int32 → Mm → Prop → Int32 × Mm × Prop) (hk2 : ∀ (l0 : Nat) (l1 : Int32) (l2 : Int32) (l3 : Int32) (m : Mm) (o : Prop), Mh wI l E mi_X5_hasStackOn c0 s0 2 [(0, .ref l0), (1, .int l1), (2, .int l2), (3, .int l3)] [] m o (k2 l0 l1 l2 l3 m o)) (l0 : Nat) (l1 : Int32) (l2 : Int32) (l3 : Int32) (m : Mm) (o : Prop) : Mh wI l E mi_X5_hasStackOn c0 s0 50 [(0, .ref l0), (1, .int l1), (2, .int l2), (3, .int l3)] [] m o (f_X5_hasStackOn_50 k2 l0 l1 l2 l3 m o) := by
  refine Mh_iinc (v := l3 + 1) (lv' := [(3, .int (l3 + 1)), (0, .ref l0), (1, .int l1), (2, .int l2)]) 3 dX5_hasStackOn_50 rfl rfl (Nat.le_of_ble_eq_true rfl) rfl ?_
  refine Mh_goto (tgt := 2) dX5_hasStackOn_53 (by decide) ?_
  refine Mh_sub (lv' := [(0, .ref l0), (1, .int l1), (2, .int l2), (3, .int (l3 + 1))]) [1, 2, 3, 0] rfl ?_
  exact hk2 _ _ _ _ _ _
def f_X5_hasStackOn_2b (k2 : Nat → Int32 → Int32 → Int32 → Mm → Prop → Int32 × Mm × Prop) (l0 : Nat) (l1 : Int32) (l2 : Int32) (l3 : Int32) (m : Mm) (o : Prop) : Int32 × Mm × Prop := if (gI m l0 6) ≤ l3 then ((0 : Int32), m, (o ∧ gT m l0 = 6)) else (if (gI m (gR m (gR m l0 0) (ix l3)) 7) = 0 then (f_X5_hasStackOn_50 k2 l0 l1 l2 l3 m ((((o ∧ gT m l0 = 6) ∧ (gT m l0 = 6 ∧ gR m l0 0 ≠ 0)) ∧ (gT m (gR m l0 0) = 24 ∧ vp_in l3 (gN m (gR m l0 0)) ∧ gR m (gR m l0 0) (ix l3) ≠ 0)) ∧ gT m (gR m (gR m l0 0) (ix l3)) = 8)) else (if (gI m (gR m (gR m l0 0) (ix l3)) 0) = l1 then (if (gI m (gR m (gR m l0 0) (ix l3)) 1) = l2 then ((1 : Int32), m, ((((o ∧ gT m l0 = 6) ∧ (gT m l0 = 6 ∧ gR m l0 0 ≠ 0)) ∧ (gT m (gR m l0 0) = 24 ∧ vp_in l3 (gN m (gR m l0 0)) ∧ gR m (gR m l0 0) (ix l3) ≠ 0)) ∧ gT m (gR m (gR m l0 0) (ix l3)) = 8)) else (f_X5_hasStackOn_50 k2 l0 l1 l2 l3 m ((((o ∧ gT m l0 = 6) ∧ (gT m l0 = 6 ∧ gR m l0 0 ≠ 0)) ∧ (gT m (gR m l0 0) = 24 ∧ vp_in l3 (gN m (gR m l0 0)) ∧ gR m (gR m l0 0) (ix l3) ≠ 0)) ∧ gT m (gR m (gR m l0 0) (ix l3)) = 8))) else (f_X5_hasStackOn_50 k2 l0 l1 l2 l3 m ((((o ∧ gT m l0 = 6) ∧ (gT m l0 = 6 ∧ gR m l0 0 ≠ 0)) ∧ (gT m (gR m l0 0) = 24 ∧ vp_in l3 (gN m (gR m l0 0)) ∧ gR m (gR m l0 0) (ix l3) ≠ 0)) ∧ gT m (gR m (gR m l0 0) (ix l3)) = 8))))
set_option maxRecDepth 10000 in
theorem t_X5_hasStackOn_2b (l : Launch) (E : En) (c0 s0 : Nat) (k2 : Nat → Int32 → Int32 → Int32 → Mm → Prop → Int32 × Mm × Prop) (hk2 : ∀ (l0 : Nat) (l1 : Int32) (l2 : Int32) (l3 : Int32) (m : Mm) (o : Prop), Mh wI l E mi_X5_hasStackOn c0 s0 2 [(0, .ref l0), (1, .int l1), (2, .int l2), (3, .int l3)] [] m o (k2 l0 l1 l2 l3 m o)) (l0 : Nat) (l1 : Int32) (l2 : Int32) (l3 : Int32) (m : Mm) (o : Prop) : Mh wI l E mi_X5_hasStackOn c0 s0 2 [(0, .ref l0), (1, .int l1), (2, .int l2), (3, .int l3)] [] m o (f_X5_hasStackOn_2b k2 l0 l1 l2 l3 m o) := by
  refine Mh_iload_n 3 rfl dX5_hasStackOn_2 ?_
  refine Mh_aload_n 0 rfl dX5_hasStackOn_3 ?_
  refine Mh_gI fd_5_6 fl_RX5_48 dX5_hasStackOn_4 ?_
  refine Mh_icmp_ge (tgt := 56) dX5_hasStackOn_7 (by decide) rfl (fun _ => ?_) (fun _ => ?_)
  · refine Mh_iconst (v := 0) dX5_hasStackOn_56 (by decide) ?_
    exact Mh_ret dX5_hasStackOn_57 rfl (fun _ => rk0Z) rfl
  · refine Mh_aload_n 0 rfl dX5_hasStackOn_10 ?_
    refine Mh_gR fd_5_0 fl_RX5_11 dX5_hasStackOn_11 ?_
    refine Mh_iload_n 3 rfl dX5_hasStackOn_14 ?_
    refine Mh_aal 24 (.inl rfl) dX5_hasStackOn_15 ?_
    refine Mh_gI fd_7_7 fl_RX5_67 dX5_hasStackOn_16 ?_
    refine Mh_if_eq (tgt := 50) dX5_hasStackOn_19 (by decide) rfl (fun _ => ?_) (fun _ => ?_)
    · exact t_X5_hasStackOn_50 l E c0 s0 k2 hk2 _ _ _ _ _ _
    · refine Mh_aload_n 0 rfl dX5_hasStackOn_22 ?_
      refine Mh_gR fd_5_0 fl_RX5_11 dX5_hasStackOn_23 ?_
      refine Mh_ok (fun h => h.1.1.2) ?_
      refine Mh_iload_n 3 rfl dX5_hasStackOn_26 ?_
      refine Mh_aal 24 (.inl rfl) dX5_hasStackOn_27 ?_
      refine Mh_ok (fun h => h.1.2) ?_
      refine Mh_gI fd_7_0 fl_RX5_71 dX5_hasStackOn_28 ?_
      refine Mh_ok (fun h => h.2) ?_
      refine Mh_iload_n 1 rfl dX5_hasStackOn_31 ?_
      refine Mh_icmp_ne (tgt := 50) dX5_hasStackOn_32 (by decide) rfl (fun _ => ?_) (fun _ => ?_)
      · exact t_X5_hasStackOn_50 l E c0 s0 k2 hk2 _ _ _ _ _ _
      · refine Mh_aload_n 0 rfl dX5_hasStackOn_35 ?_
        refine Mh_gR fd_5_0 fl_RX5_11 dX5_hasStackOn_36 ?_
        refine Mh_ok (fun h => h.1.1.2) ?_
        refine Mh_iload_n 3 rfl dX5_hasStackOn_39 ?_
        refine Mh_aal 24 (.inl rfl) dX5_hasStackOn_40 ?_
        refine Mh_ok (fun h => h.1.2) ?_
        refine Mh_gI fd_7_1 fl_RX5_74 dX5_hasStackOn_41 ?_
        refine Mh_ok (fun h => h.2) ?_
        refine Mh_iload_n 2 rfl dX5_hasStackOn_44 ?_
        refine Mh_icmp_ne (tgt := 50) dX5_hasStackOn_45 (by decide) rfl (fun _ => ?_) (fun _ => ?_)
        · exact t_X5_hasStackOn_50 l E c0 s0 k2 hk2 _ _ _ _ _ _
        · refine Mh_iconst (v := 1) dX5_hasStackOn_48 (by decide) ?_
          exact Mh_ret dX5_hasStackOn_49 rfl (fun _ => rk1Z) rfl
def f_X5_hasStackOn_2 : Nat → Nat → Int32 → Int32 → Int32 → Mm → Prop → Int32 × Mm × Prop
  | 0, _, _, _, _, m, _ => (0, m, False)
  | n + 1, l0, l1, l2, l3, m, o => f_X5_hasStackOn_2b (f_X5_hasStackOn_2 n) l0 l1 l2 l3 m o
theorem t_X5_hasStackOn_2 (l : Launch) (E : En) (c0 s0 : Nat) : ∀ (n : Nat) (l0 : Nat) (l1 : Int32) (l2 : Int32) (l3 : Int32) (m : Mm) (o : Prop), Mh wI l E mi_X5_hasStackOn c0 s0 2 [(0, .ref l0), (1, .int l1), (2, .int l2), (3, .int l3)] [] m o (f_X5_hasStackOn_2 n l0 l1 l2 l3 m o)
  | 0, _, _, _, _, _, _ => Mh_out rfl
  | n + 1, l0, l1, l2, l3, m, o => t_X5_hasStackOn_2b l E c0 s0 (f_X5_hasStackOn_2 n) (t_X5_hasStackOn_2 l E c0 s0 n) l0 l1 l2 l3 m o
def f_X5_hasStackOn_0 (l0 : Nat) (l1 : Int32) (l2 : Int32) (m : Mm) (o : Prop) : Int32 × Mm × Prop := f_X5_hasStackOn_2 1000 l0 l1 l2 (0 : Int32) m o
set_option maxRecDepth 10000 in
theorem t_X5_hasStackOn_0 (l : Launch) (E : En) (c0 s0 : Nat) (l0 : Nat) (l1 : Int32) (l2 : Int32) (m : Mm) (o : Prop) : Mh wI l E mi_X5_hasStackOn c0 s0 0 [(0, .ref l0), (1, .int l1), (2, .int l2)] [] m o (f_X5_hasStackOn_0 l0 l1 l2 m o) := by
  refine Mh_iconst (v := 0) dX5_hasStackOn_0 (by decide) ?_
  refine Mh_istore_n (lv' := [(3, .int (0 : Int32)), (0, .ref l0), (1, .int l1), (2, .int l2)]) dX5_hasStackOn_1 (Nat.le_of_ble_eq_true rfl) rfl ?_
  refine Mh_sub (lv' := [(0, .ref l0), (1, .int l1), (2, .int l2), (3, .int (0 : Int32))]) [1, 2, 3, 0] rfl ?_
  exact t_X5_hasStackOn_2 l E c0 s0 _ _ _ _ _ _ _
def F_X5_hasStackOn (a0 : Nat) (a1 : Int32) (a2 : Int32) (m : Mm) (o : Prop) : Int32 × Mm × Prop := f_X5_hasStackOn_0 a0 a1 a2 m o
theorem T_X5_hasStackOn (l : Launch) (E : En) (a0 : Nat) (a1 : Int32) (a2 : Int32) (m : Mm) (o : Prop) : Mt wI l E yX5_hasStackOn mi_X5_hasStackOn [.ref a0, .int a1, .int a2] m o (F_X5_hasStackOn a0 a1 a2 m o) :=
  Mt_I (by decide) rfl rfl rfl (Nat.le_of_ble_eq_true rfl) rfl (.inr (.inl rfl)) (t_X5_hasStackOn_0 l E _ _ _ _ _ _ _)
def f_X7_raise_61 (k46 : Nat → Int32 → Mm → Prop → Unit × Mm × Prop) (l0 : Nat) (l7 : Int32) (m : Mm) (o : Prop) : Unit × Mm × Prop := k46 l0 (l7 + 1) m o
set_option maxRecDepth 10000 in
theorem t_X7_raise_61 (l : Launch) (E : En) (c0 s0 : Nat) (k46 : Nat → Int32 → Mm → Prop → Unit × Mm × Prop) (hk46 : ∀ (l0 : Nat) (l7 : Int32) (m : Mm) (o : Prop), Mh wU l E mi_X7_raise c0 s0 46 [(0, .ref l0), (7, .int l7)] [] m o (k46 l0 l7 m o)) (l0 : Nat) (l7 : Int32) (m : Mm) (o : Prop) : Mh wU l E mi_X7_raise c0 s0 61 [(0, .ref l0), (7, .int l7)] [] m o (f_X7_raise_61 k46 l0 l7 m o) := by
  refine Mh_iinc (v := l7 + 1) (lv' := [(7, .int (l7 + 1)), (0, .ref l0)]) 1 dX7_raise_61 rfl rfl (Nat.le_of_ble_eq_true rfl) rfl ?_
  refine Mh_goto (tgt := 46) dX7_raise_64 (by decide) ?_
  refine Mh_sub (lv' := [(0, .ref l0), (7, .int (l7 + 1))]) [1, 0] rfl ?_
  exact hk46 _ _ _ _
def f_X7_raise_46b (k46 : Nat → Int32 → Mm → Prop → Unit × Mm × Prop) (l0 : Nat) (l7 : Int32) (m : Mm) (o : Prop) : Unit × Mm × Prop := if (16 : Int32) ≤ l7 then ((), m, o) else (f_X7_raise_61 k46 l0 l7 (sI m (gR m l0 8) (ix l7) (0 : Int32)) ((o ∧ (gT m l0 = 8 ∧ gR m l0 8 ≠ 0)) ∧ (gT m (gR m l0 8) = 20 ∧ vp_in l7 (gN m (gR m l0 8)))))
set_option maxRecDepth 10000 in
theorem t_X7_raise_46b (l : Launch) (E : En) (c0 s0 : Nat) (k46 : Nat → Int32 → Mm → Prop → Unit × Mm × Prop) (hk46 : ∀ (l0 : Nat) (l7 : Int32) (m : Mm) (o : Prop), Mh wU l E mi_X7_raise c0 s0 46 [(0, .ref l0), (7, .int l7)] [] m o (k46 l0 l7 m o)) (l0 : Nat) (l7 : Int32) (m : Mm) (o : Prop) : Mh wU l E mi_X7_raise c0 s0 46 [(0, .ref l0), (7, .int l7)] [] m o (f_X7_raise_46b k46 l0 l7 m o) := by
  refine Mh_iload 1 rfl dX7_raise_46 ?_
  refine Mh_bipush (v := 16) dX7_raise_48 (by decide) ?_
  refine Mh_icmp_ge (tgt := 67) dX7_raise_50 (by decide) rfl (fun _ => ?_) (fun _ => ?_)
  · exact Mh_ret dX7_raise_67 rfl (fun _ => trivial) rfl
  · refine Mh_aload_n 0 rfl dX7_raise_53 ?_
    refine Mh_gR fd_7_8 fl_RX7_9 dX7_raise_54 ?_
    refine Mh_iload 1 rfl dX7_raise_57 ?_
    refine Mh_iconst (v := 0) dX7_raise_59 (by decide) ?_
    refine Mh_ias dX7_raise_60 ?_
    exact t_X7_raise_61 l E c0 s0 k46 hk46 _ _ _ _
def f_X7_raise_46 : Nat → Nat → Int32 → Mm → Prop → Unit × Mm × Prop
  | 0, _, _, m, _ => ((), m, False)
  | n + 1, l0, l7, m, o => f_X7_raise_46b (f_X7_raise_46 n) l0 l7 m o
theorem t_X7_raise_46 (l : Launch) (E : En) (c0 s0 : Nat) : ∀ (n : Nat) (l0 : Nat) (l7 : Int32) (m : Mm) (o : Prop), Mh wU l E mi_X7_raise c0 s0 46 [(0, .ref l0), (7, .int l7)] [] m o (f_X7_raise_46 n l0 l7 m o)
  | 0, _, _, _, _ => Mh_out rfl
  | n + 1, l0, l7, m, o => t_X7_raise_46b l E c0 s0 (f_X7_raise_46 n) (t_X7_raise_46 l E c0 s0 n) l0 l7 m o
def f_X7_raise_43 (l0 : Nat) (m : Mm) (o : Prop) : Unit × Mm × Prop := f_X7_raise_46 1000 l0 (0 : Int32) m o
set_option maxRecDepth 10000 in
theorem t_X7_raise_43 (l : Launch) (E : En) (c0 s0 : Nat) (l0 : Nat) (m : Mm) (o : Prop) : Mh wU l E mi_X7_raise c0 s0 43 [(0, .ref l0)] [] m o (f_X7_raise_43 l0 m o) := by
  refine Mh_iconst (v := 0) dX7_raise_43 (by decide) ?_
  refine Mh_istore (lv' := [(7, .int (0 : Int32)), (0, .ref l0)]) dX7_raise_44 (Nat.le_of_ble_eq_true rfl) rfl ?_
  refine Mh_sub (lv' := [(0, .ref l0), (7, .int (0 : Int32))]) [1, 0] rfl ?_
  exact t_X7_raise_46 l E c0 s0 _ _ _ _ _
def f_X7_raise_38 (l0 : Nat) (m : Mm) (o : Prop) : Unit × Mm × Prop := f_X7_raise_43 l0 (sI m l0 7 (1 : Int32)) (o ∧ (gT m l0 = 8 ∧ ((1 : Int32) = 0 ∨ (1 : Int32) = 1)))
set_option maxRecDepth 10000 in
theorem t_X7_raise_38 (l : Launch) (E : En) (c0 s0 : Nat) (l0 : Nat) (m : Mm) (o : Prop) : Mh wU l E mi_X7_raise c0 s0 38 [(0, .ref l0)] [] m o (f_X7_raise_38 l0 m o) := by
  refine Mh_aload_n 0 rfl dX7_raise_38 ?_
  refine Mh_iconst (v := 1) dX7_raise_39 (by decide) ?_
  refine Mh_pZ fd_7_7 ft_7 rfl fl_RX7_37 rfl dX7_raise_40 ?_
  exact t_X7_raise_43 l E c0 s0 _ _ _
def f_X7_raise_33 (l0 : Nat) (m : Mm) (o : Prop) : Unit × Mm × Prop := f_X7_raise_38 l0 (sI m l0 6 (0 : Int32)) (o ∧ gT m l0 = 8)
set_option maxRecDepth 10000 in
theorem t_X7_raise_33 (l : Launch) (E : En) (c0 s0 : Nat) (l0 : Nat) (m : Mm) (o : Prop) : Mh wU l E mi_X7_raise c0 s0 33 [(0, .ref l0)] [] m o (f_X7_raise_33 l0 m o) := by
  refine Mh_aload_n 0 rfl dX7_raise_33 ?_
  refine Mh_iconst (v := 0) dX7_raise_34 (by decide) ?_
  refine Mh_pI fd_7_6 ft_7 rfl fl_RX7_34 rfl dX7_raise_35 ?_
  exact t_X7_raise_38 l E c0 s0 _ _ _
def f_X7_raise_27 (l0 : Nat) (l6 : Int32) (m : Mm) (o : Prop) : Unit × Mm × Prop := f_X7_raise_33 l0 (sI m l0 5 l6) (o ∧ gT m l0 = 8)
set_option maxRecDepth 10000 in
theorem t_X7_raise_27 (l : Launch) (E : En) (c0 s0 : Nat) (l0 : Nat) (l6 : Int32) (m : Mm) (o : Prop) : Mh wU l E mi_X7_raise c0 s0 27 [(0, .ref l0), (6, .int l6)] [] m o (f_X7_raise_27 l0 l6 m o) := by
  refine Mh_aload_n 0 rfl dX7_raise_27 ?_
  refine Mh_iload 1 rfl dX7_raise_28 ?_
  refine Mh_pI fd_7_5 ft_7 rfl fl_RX7_31 rfl dX7_raise_30 ?_
  refine Mh_sub (lv' := [(0, .ref l0)]) [0] rfl ?_
  exact t_X7_raise_33 l E c0 s0 _ _ _
def f_X7_raise_21 (l0 : Nat) (l5 : Int32) (l6 : Int32) (m : Mm) (o : Prop) : Unit × Mm × Prop := f_X7_raise_27 l0 l6 (sI m l0 4 l5) (o ∧ gT m l0 = 8)
set_option maxRecDepth 10000 in
theorem t_X7_raise_21 (l : Launch) (E : En) (c0 s0 : Nat) (l0 : Nat) (l5 : Int32) (l6 : Int32) (m : Mm) (o : Prop) : Mh wU l E mi_X7_raise c0 s0 21 [(0, .ref l0), (5, .int l5), (6, .int l6)] [] m o (f_X7_raise_21 l0 l5 l6 m o) := by
  refine Mh_aload_n 0 rfl dX7_raise_21 ?_
  refine Mh_iload 1 rfl dX7_raise_22 ?_
  refine Mh_pI fd_7_4 ft_7 rfl fl_RX7_28 rfl dX7_raise_24 ?_
  refine Mh_sub (lv' := [(0, .ref l0), (6, .int l6)]) [0, 2] rfl ?_
  exact t_X7_raise_27 l E c0 s0 _ _ _ _
def f_X7_raise_15 (l0 : Nat) (l4 : Int32) (l5 : Int32) (l6 : Int32) (m : Mm) (o : Prop) : Unit × Mm × Prop := f_X7_raise_21 l0 l5 l6 (sI m l0 3 l4) (o ∧ gT m l0 = 8)
set_option maxRecDepth 10000 in
theorem t_X7_raise_15 (l : Launch) (E : En) (c0 s0 : Nat) (l0 : Nat) (l4 : Int32) (l5 : Int32) (l6 : Int32) (m : Mm) (o : Prop) : Mh wU l E mi_X7_raise c0 s0 15 [(0, .ref l0), (4, .int l4), (5, .int l5), (6, .int l6)] [] m o (f_X7_raise_15 l0 l4 l5 l6 m o) := by
  refine Mh_aload_n 0 rfl dX7_raise_15 ?_
  refine Mh_iload 1 rfl dX7_raise_16 ?_
  refine Mh_pI fd_7_3 ft_7 rfl fl_RX7_25 rfl dX7_raise_18 ?_
  refine Mh_sub (lv' := [(0, .ref l0), (5, .int l5), (6, .int l6)]) [0, 2, 3] rfl ?_
  exact t_X7_raise_21 l E c0 s0 _ _ _ _ _
def f_X7_raise_10 (l0 : Nat) (l3 : Int32) (l4 : Int32) (l5 : Int32) (l6 : Int32) (m : Mm) (o : Prop) : Unit × Mm × Prop := f_X7_raise_15 l0 l4 l5 l6 (sI m l0 2 l3) (o ∧ gT m l0 = 8)
set_option maxRecDepth 10000 in
theorem t_X7_raise_10 (l : Launch) (E : En) (c0 s0 : Nat) (l0 : Nat) (l3 : Int32) (l4 : Int32) (l5 : Int32) (l6 : Int32) (m : Mm) (o : Prop) : Mh wU l E mi_X7_raise c0 s0 10 [(0, .ref l0), (3, .int l3), (4, .int l4), (5, .int l5), (6, .int l6)] [] m o (f_X7_raise_10 l0 l3 l4 l5 l6 m o) := by
  refine Mh_aload_n 0 rfl dX7_raise_10 ?_
  refine Mh_iload_n 1 rfl dX7_raise_11 ?_
  refine Mh_pI fd_7_2 ft_7 rfl fl_RX7_22 rfl dX7_raise_12 ?_
  refine Mh_sub (lv' := [(0, .ref l0), (4, .int l4), (5, .int l5), (6, .int l6)]) [0, 2, 3, 4] rfl ?_
  exact t_X7_raise_15 l E c0 s0 _ _ _ _ _ _
def f_X7_raise_5 (l0 : Nat) (l2 : Int32) (l3 : Int32) (l4 : Int32) (l5 : Int32) (l6 : Int32) (m : Mm) (o : Prop) : Unit × Mm × Prop := f_X7_raise_10 l0 l3 l4 l5 l6 (sI m l0 1 l2) (o ∧ gT m l0 = 8)
set_option maxRecDepth 10000 in
theorem t_X7_raise_5 (l : Launch) (E : En) (c0 s0 : Nat) (l0 : Nat) (l2 : Int32) (l3 : Int32) (l4 : Int32) (l5 : Int32) (l6 : Int32) (m : Mm) (o : Prop) : Mh wU l E mi_X7_raise c0 s0 5 [(0, .ref l0), (2, .int l2), (3, .int l3), (4, .int l4), (5, .int l5), (6, .int l6)] [] m o (f_X7_raise_5 l0 l2 l3 l4 l5 l6 m o) := by
  refine Mh_aload_n 0 rfl dX7_raise_5 ?_
  refine Mh_iload_n 1 rfl dX7_raise_6 ?_
  refine Mh_pI fd_7_1 ft_7 rfl fl_RX7_19 rfl dX7_raise_7 ?_
  refine Mh_sub (lv' := [(0, .ref l0), (3, .int l3), (4, .int l4), (5, .int l5), (6, .int l6)]) [0, 2, 3, 4, 5] rfl ?_
  exact t_X7_raise_10 l E c0 s0 _ _ _ _ _ _ _
def f_X7_raise_0 (l0 : Nat) (l1 : Int32) (l2 : Int32) (l3 : Int32) (l4 : Int32) (l5 : Int32) (l6 : Int32) (m : Mm) (o : Prop) : Unit × Mm × Prop := f_X7_raise_5 l0 l2 l3 l4 l5 l6 (sI m l0 0 l1) (o ∧ gT m l0 = 8)
set_option maxRecDepth 10000 in
theorem t_X7_raise_0 (l : Launch) (E : En) (c0 s0 : Nat) (l0 : Nat) (l1 : Int32) (l2 : Int32) (l3 : Int32) (l4 : Int32) (l5 : Int32) (l6 : Int32) (m : Mm) (o : Prop) : Mh wU l E mi_X7_raise c0 s0 0 [(0, .ref l0), (1, .int l1), (2, .int l2), (3, .int l3), (4, .int l4), (5, .int l5), (6, .int l6)] [] m o (f_X7_raise_0 l0 l1 l2 l3 l4 l5 l6 m o) := by
  refine Mh_aload_n 0 rfl dX7_raise_0 ?_
  refine Mh_iload_n 1 rfl dX7_raise_1 ?_
  refine Mh_pI fd_7_0 ft_7 rfl fl_RX7_15 rfl dX7_raise_2 ?_
  refine Mh_sub (lv' := [(0, .ref l0), (2, .int l2), (3, .int l3), (4, .int l4), (5, .int l5), (6, .int l6)]) [0, 2, 3, 4, 5, 6] rfl ?_
  exact t_X7_raise_5 l E c0 s0 _ _ _ _ _ _ _ _
def F_X7_raise (a0 : Nat) (a1 : Int32) (a2 : Int32) (a3 : Int32) (a4 : Int32) (a5 : Int32) (a6 : Int32) (m : Mm) (o : Prop) : Unit × Mm × Prop := f_X7_raise_0 a0 a1 a2 a3 a4 a5 a6 m o
theorem T_X7_raise (l : Launch) (E : En) (a0 : Nat) (a1 : Int32) (a2 : Int32) (a3 : Int32) (a4 : Int32) (a5 : Int32) (a6 : Int32) (m : Mm) (o : Prop) : Mt wU l E yX7_raise mi_X7_raise [.ref a0, .int a1, .int a2, .int a3, .int a4, .int a5, .int a6] m o (F_X7_raise a0 a1 a2 a3 a4 a5 a6 m o) :=
  Mt_U (by decide) rfl (fun h => by cases h) rfl (Nat.le_of_ble_eq_true rfl) rfl (t_X7_raise_0 l E _ _ _ _ _ _ _ _ _ _ _)
def f_X11_stack_73 (m : Mm) (o : Prop) : Int32 × Mm × Prop := ((-1 : Int32), m, o)
set_option maxRecDepth 10000 in
theorem t_X11_stack_73 (l : Launch) (E : En) (c0 s0 : Nat) (m : Mm) (o : Prop) : Mh wI l E mi_X11_stack c0 s0 73 [] [] m o (f_X11_stack_73  m o) := by
  refine Mh_iconst (v := (-1)) dX11_stack_73 (by decide) ?_
  exact Mh_ret dX11_stack_74 rfl (fun _ => rfl) rfl
def f_X11_stack_134 (l8 : Int32) (m : Mm) (o : Prop) : Int32 × Mm × Prop := (l8, m, o)
set_option maxRecDepth 10000 in
theorem t_X11_stack_134 (l : Launch) (E : En) (c0 s0 : Nat) (l8 : Int32) (m : Mm) (o : Prop) : Mh wI l E mi_X11_stack c0 s0 134 [(8, .int l8)] [] m o (f_X11_stack_134 l8 m o) := by
  refine Mh_iload 0 rfl dX11_stack_134 ?_
  exact Mh_ret dX11_stack_136 rfl (fun _ => rfl) rfl
def f_X11_stack_121 (l0 : Nat) (l8 : Int32) (m : Mm) (o : Prop) : Int32 × Mm × Prop := f_X11_stack_134 l8 (sI m (gR m l0 0) 6 ((gI m (gR m l0 0) 6) + (1 : Int32))) ((o ∧ (gT m l0 = 11 ∧ gR m l0 0 ≠ 0)) ∧ gT m (gR m l0 0) = 6)
set_option maxRecDepth 10000 in
theorem t_X11_stack_121 (l : Launch) (E : En) (c0 s0 : Nat) (l0 : Nat) (l8 : Int32) (m : Mm) (o : Prop) : Mh wI l E mi_X11_stack c0 s0 121 [(0, .ref l0), (8, .int l8)] [] m o (f_X11_stack_121 l0 l8 m o) := by
  refine Mh_aload_n 0 rfl dX11_stack_121 ?_
  refine Mh_gR fd_10_0 fl_RX11_10 dX11_stack_122 ?_
  refine Mh_dup dX11_stack_125 rfl ?_
  refine Mh_gI fd_5_6 fl_RX11_94 dX11_stack_126 ?_
  refine Mh_iconst (v := 1) dX11_stack_129 (by decide) ?_
  refine Mh_iadd dX11_stack_130 ?_
  refine Mh_pI fd_5_6 ft_5 rfl fl_RX11_94 rfl dX11_stack_131 ?_
  refine Mh_ok (fun h => h.2) ?_
  refine Mh_sub (lv' := [(8, .int l8)]) [1] rfl ?_
  exact t_X11_stack_134 l E c0 s0 _ _ _
def f_X11_stack_84 (l0 : Nat) (l1 : Int32) (l2 : Int32) (l3 : Int32) (l4 : Int32) (l5 : Int32) (l6 : Int32) (y0 : Int32) (m : Mm) (o : Prop) : Int32 × Mm × Prop := if y0 = 0 then (bnd (F_X7_raise (gR m (gR m (gR m l0 0) 0) (ix (gI m (gR m l0 0) 6))) l1 l2 l3 l4 l5 l6 m (((((o ∧ (gT m l0 = 11 ∧ gR m l0 0 ≠ 0)) ∧ gT m (gR m l0 0) = 6) ∧ (gT m (gR m l0 0) = 6 ∧ gR m (gR m l0 0) 0 ≠ 0)) ∧ (gT m (gR m (gR m l0 0) 0) = 24 ∧ vp_in (gI m (gR m l0 0) 6) (gN m (gR m (gR m l0 0) 0)) ∧ gR m (gR m (gR m l0 0) 0) (ix (gI m (gR m l0 0) 6)) ≠ 0)) ∧ gT m (gR m (gR m (gR m l0 0) 0) (ix (gI m (gR m l0 0) 6))) = 8)) (fun _ m1 o1 => f_X11_stack_121 l0 (gI m (gR m l0 0) 6) m1 o1)) else ((-2 : Int32), m, o)
set_option maxRecDepth 10000 in
theorem t_X11_stack_84 (l : Launch) (E : En) (c0 s0 : Nat) (l0 : Nat) (l1 : Int32) (l2 : Int32) (l3 : Int32) (l4 : Int32) (l5 : Int32) (l6 : Int32) (y0 : Int32) (m : Mm) (o : Prop) : Mh wI l E mi_X11_stack c0 s0 84 [(0, .ref l0), (1, .int l1), (2, .int l2), (3, .int l3), (4, .int l4), (5, .int l5), (6, .int l6)] [.int y0] m o (f_X11_stack_84 l0 l1 l2 l3 l4 l5 l6 y0 m o) := by
  refine Mh_if_eq (tgt := 90) dX11_stack_84 (by decide) rfl (fun _ => ?_) (fun _ => ?_)
  · refine Mh_aload_n 0 rfl dX11_stack_90 ?_
    refine Mh_gR fd_10_0 fl_RX11_10 dX11_stack_91 ?_
    refine Mh_gI fd_5_6 fl_RX11_94 dX11_stack_94 ?_
    refine Mh_istore (lv' := [(8, .int (gI m (gR m l0 0) 6)), (0, .ref l0), (1, .int l1), (2, .int l2), (3, .int l3), (4, .int l4), (5, .int l5), (6, .int l6)]) dX11_stack_97 (Nat.le_of_ble_eq_true rfl) rfl ?_
    refine Mh_aload_n 1 rfl dX11_stack_99 ?_
    refine Mh_gR fd_10_0 fl_RX11_10 dX11_stack_100 ?_
    refine Mh_ok (fun h => h.1.2) ?_
    refine Mh_gR fd_5_0 fl_RX11_101 dX11_stack_103 ?_
    refine Mh_iload 0 rfl dX11_stack_106 ?_
    refine Mh_aal 24 (.inl rfl) dX11_stack_108 ?_
    refine Mh_iload_n 2 rfl dX11_stack_109 ?_
    refine Mh_iload_n 3 rfl dX11_stack_110 ?_
    refine Mh_iload_n 4 rfl dX11_stack_111 ?_
    refine Mh_iload 5 rfl dX11_stack_112 ?_
    refine Mh_iload 6 rfl dX11_stack_114 ?_
    refine Mh_iload 7 rfl dX11_stack_116 ?_
    refine Mh_cvU (N := mi_X7_raise) (q := gR m (gR m (gR m l0 0) 0) (ix (gI m (gR m l0 0) 6))) (ci := 7) (as := [.int l1, .int l2, .int l3, .int l4, .int l5, .int l6]) (st := []) (id) cg_yX7_raise (by decide) rfl rfl ml_RX11_105 iv_yX7_raise pd_yX7_raise rfl (by decide) (Nat.le_of_ble_eq_true rfl) rfl dX11_stack_118 (T_X7_raise l E _ _ _ _ _ _ _ _ _) rfl ?_
    refine Mh_sub (lv' := [(0, .ref l0), (8, .int (gI m (gR m l0 0) 6))]) [1, 0] rfl ?_
    exact t_X11_stack_121 l E c0 s0 _ _ _ _
  · refine Mh_bipush (v := (-2)) dX11_stack_87 (by decide) ?_
    exact Mh_ret dX11_stack_89 rfl (fun _ => rfl) rfl
def f_X11_stack_54 (l0 : Nat) (l1 : Int32) (l2 : Int32) (l3 : Int32) (l4 : Int32) (l5 : Int32) (l6 : Int32) (y0 : Int32) (m : Mm) (o : Prop) : Int32 × Mm × Prop := if y0 = 0 then (f_X11_stack_73  m o) else (if (gI m (gR m l0 0) 6) < (12 : Int32) then (bnd (F_X5_hasStackOn (gR m l0 0) l1 l2 m ((o ∧ (gT m l0 = 11 ∧ gR m l0 0 ≠ 0)) ∧ gT m (gR m l0 0) = 6)) (fun v1 m1 o1 => f_X11_stack_84 l0 l1 l2 l3 l4 l5 l6 v1 m1 o1)) else (f_X11_stack_73  m ((o ∧ (gT m l0 = 11 ∧ gR m l0 0 ≠ 0)) ∧ gT m (gR m l0 0) = 6)))
set_option maxRecDepth 10000 in
theorem t_X11_stack_54 (l : Launch) (E : En) (c0 s0 : Nat) (l0 : Nat) (l1 : Int32) (l2 : Int32) (l3 : Int32) (l4 : Int32) (l5 : Int32) (l6 : Int32) (y0 : Int32) (m : Mm) (o : Prop) : Mh wI l E mi_X11_stack c0 s0 54 [(0, .ref l0), (1, .int l1), (2, .int l2), (3, .int l3), (4, .int l4), (5, .int l5), (6, .int l6)] [.int y0] m o (f_X11_stack_54 l0 l1 l2 l3 l4 l5 l6 y0 m o) := by
  refine Mh_istore (lv' := [(7, .int y0), (0, .ref l0), (1, .int l1), (2, .int l2), (3, .int l3), (4, .int l4), (5, .int l5), (6, .int l6)]) dX11_stack_54 (Nat.le_of_ble_eq_true rfl) rfl ?_
  refine Mh_iload 0 rfl dX11_stack_56 ?_
  refine Mh_if_eq (tgt := 73) dX11_stack_58 (by decide) rfl (fun _ => ?_) (fun _ => ?_)
  · refine Mh_sub (lv' := []) [] rfl ?_
    exact t_X11_stack_73 l E c0 s0  _ _
  · refine Mh_aload_n 1 rfl dX11_stack_61 ?_
    refine Mh_gR fd_10_0 fl_RX11_10 dX11_stack_62 ?_
    refine Mh_gI fd_5_6 fl_RX11_94 dX11_stack_65 ?_
    refine Mh_bipush (v := 12) dX11_stack_68 (by decide) ?_
    refine Mh_icmp_lt (tgt := 75) dX11_stack_70 (by decide) rfl (fun _ => ?_) (fun _ => ?_)
    · refine Mh_aload_n 1 rfl dX11_stack_75 ?_
      refine Mh_gR fd_10_0 fl_RX11_10 dX11_stack_76 ?_
      refine Mh_ok (fun h => h.1.2) ?_
      refine Mh_iload_n 2 rfl dX11_stack_79 ?_
      refine Mh_iload_n 3 rfl dX11_stack_80 ?_
      refine Mh_cvI (N := mi_X5_hasStackOn) (q := gR m l0 0) (ci := 5) (as := [.int l1, .int l2]) (st := []) (fun h => ⟨h, (fun h => h.2) h⟩) cg_yX5_hasStackOn (by decide) rfl rfl ml_RX11_98 iv_yX5_hasStackOn pd_yX5_hasStackOn rfl (by decide) (Nat.le_of_ble_eq_true rfl) rfl dX11_stack_81 (T_X5_hasStackOn l E _ _ _ _ _) rfl ?_
      refine Mh_sub (lv' := [(0, .ref l0), (1, .int l1), (2, .int l2), (3, .int l3), (4, .int l4), (5, .int l5), (6, .int l6)]) [1, 2, 3, 4, 5, 6, 7] rfl ?_
      exact t_X11_stack_84 l E c0 s0 _ _ _ _ _ _ _ _ _ _
    · refine Mh_sub (lv' := []) [] rfl ?_
      exact t_X11_stack_73 l E c0 s0  _ _
def f_X11_stack_53 (l0 : Nat) (l1 : Int32) (l2 : Int32) (l3 : Int32) (l4 : Int32) (l5 : Int32) (l6 : Int32) (m : Mm) (o : Prop) : Int32 × Mm × Prop := f_X11_stack_54 l0 l1 l2 l3 l4 l5 l6 (0 : Int32) m o
set_option maxRecDepth 10000 in
theorem t_X11_stack_53 (l : Launch) (E : En) (c0 s0 : Nat) (l0 : Nat) (l1 : Int32) (l2 : Int32) (l3 : Int32) (l4 : Int32) (l5 : Int32) (l6 : Int32) (m : Mm) (o : Prop) : Mh wI l E mi_X11_stack c0 s0 53 [(0, .ref l0), (1, .int l1), (2, .int l2), (3, .int l3), (4, .int l4), (5, .int l5), (6, .int l6)] [] m o (f_X11_stack_53 l0 l1 l2 l3 l4 l5 l6 m o) := by
  refine Mh_iconst (v := 0) dX11_stack_53 (by decide) ?_
  exact t_X11_stack_54 l E c0 s0 _ _ _ _ _ _ _ _ _ _
def f_X11_stack_46 (l0 : Nat) (l1 : Int32) (l2 : Int32) (l3 : Int32) (l4 : Int32) (l5 : Int32) (l6 : Int32) (y0 : Int32) (m : Mm) (o : Prop) : Int32 × Mm × Prop := if y0 = 0 then (f_X11_stack_53 l0 l1 l2 l3 l4 l5 l6 m o) else (f_X11_stack_54 l0 l1 l2 l3 l4 l5 l6 (1 : Int32) m o)
set_option maxRecDepth 10000 in
theorem t_X11_stack_46 (l : Launch) (E : En) (c0 s0 : Nat) (l0 : Nat) (l1 : Int32) (l2 : Int32) (l3 : Int32) (l4 : Int32) (l5 : Int32) (l6 : Int32) (y0 : Int32) (m : Mm) (o : Prop) : Mh wI l E mi_X11_stack c0 s0 46 [(0, .ref l0), (1, .int l1), (2, .int l2), (3, .int l3), (4, .int l4), (5, .int l5), (6, .int l6)] [.int y0] m o (f_X11_stack_46 l0 l1 l2 l3 l4 l5 l6 y0 m o) := by
  refine Mh_if_eq (tgt := 53) dX11_stack_46 (by decide) rfl (fun _ => ?_) (fun _ => ?_)
  · exact t_X11_stack_53 l E c0 s0 _ _ _ _ _ _ _ _ _
  · refine Mh_iconst (v := 1) dX11_stack_49 (by decide) ?_
    refine Mh_goto (tgt := 54) dX11_stack_50 (by decide) ?_
    exact t_X11_stack_54 l E c0 s0 _ _ _ _ _ _ _ _ _ _
def f_X11_stack_35 (l0 : Nat) (l1 : Int32) (l2 : Int32) (l3 : Int32) (l4 : Int32) (l5 : Int32) (l6 : Int32) (y0 : Int32) (m : Mm) (o : Prop) : Int32 × Mm × Prop := if y0 = 0 then (f_X11_stack_53 l0 l1 l2 l3 l4 l5 l6 m o) else (bnd (F_X11_isWithin l6 (0 : Int32) (99 : Int32) m o) (fun v1 m1 o1 => f_X11_stack_46 l0 l1 l2 l3 l4 l5 l6 v1 m1 o1))
set_option maxRecDepth 10000 in
theorem t_X11_stack_35 (l : Launch) (E : En) (c0 s0 : Nat) (l0 : Nat) (l1 : Int32) (l2 : Int32) (l3 : Int32) (l4 : Int32) (l5 : Int32) (l6 : Int32) (y0 : Int32) (m : Mm) (o : Prop) : Mh wI l E mi_X11_stack c0 s0 35 [(0, .ref l0), (1, .int l1), (2, .int l2), (3, .int l3), (4, .int l4), (5, .int l5), (6, .int l6)] [.int y0] m o (f_X11_stack_35 l0 l1 l2 l3 l4 l5 l6 y0 m o) := by
  refine Mh_if_eq (tgt := 53) dX11_stack_35 (by decide) rfl (fun _ => ?_) (fun _ => ?_)
  · exact t_X11_stack_53 l E c0 s0 _ _ _ _ _ _ _ _ _
  · refine Mh_iload 6 rfl dX11_stack_38 ?_
    refine Mh_iconst (v := 0) dX11_stack_40 (by decide) ?_
    refine Mh_bipush (v := 99) dX11_stack_41 (by decide) ?_
    refine Mh_csI (N := mi_X11_isWithin) (as := [.int l6, .int (0 : Int32), .int (99 : Int32)]) (st := []) cg_yX11_isWithin (.inl ml_RX11_90) sv_yX11_isWithin pd_yX11_isWithin rfl (by decide) (Nat.le_of_ble_eq_true rfl) rfl dX11_stack_43 (T_X11_isWithin l E _ _ _ _ _) rfl ?_
    exact t_X11_stack_46 l E c0 s0 _ _ _ _ _ _ _ _ _ _
def f_X11_stack_24 (l0 : Nat) (l1 : Int32) (l2 : Int32) (l3 : Int32) (l4 : Int32) (l5 : Int32) (l6 : Int32) (y0 : Int32) (m : Mm) (o : Prop) : Int32 × Mm × Prop := if y0 = 0 then (f_X11_stack_53 l0 l1 l2 l3 l4 l5 l6 m o) else (bnd (F_X11_isWithin l5 (0 : Int32) (99 : Int32) m o) (fun v1 m1 o1 => f_X11_stack_35 l0 l1 l2 l3 l4 l5 l6 v1 m1 o1))
set_option maxRecDepth 10000 in
theorem t_X11_stack_24 (l : Launch) (E : En) (c0 s0 : Nat) (l0 : Nat) (l1 : Int32) (l2 : Int32) (l3 : Int32) (l4 : Int32) (l5 : Int32) (l6 : Int32) (y0 : Int32) (m : Mm) (o : Prop) : Mh wI l E mi_X11_stack c0 s0 24 [(0, .ref l0), (1, .int l1), (2, .int l2), (3, .int l3), (4, .int l4), (5, .int l5), (6, .int l6)] [.int y0] m o (f_X11_stack_24 l0 l1 l2 l3 l4 l5 l6 y0 m o) := by
  refine Mh_if_eq (tgt := 53) dX11_stack_24 (by decide) rfl (fun _ => ?_) (fun _ => ?_)
  · exact t_X11_stack_53 l E c0 s0 _ _ _ _ _ _ _ _ _
  · refine Mh_iload 5 rfl dX11_stack_27 ?_
    refine Mh_iconst (v := 0) dX11_stack_29 (by decide) ?_
    refine Mh_bipush (v := 99) dX11_stack_30 (by decide) ?_
    refine Mh_csI (N := mi_X11_isWithin) (as := [.int l5, .int (0 : Int32), .int (99 : Int32)]) (st := []) cg_yX11_isWithin (.inl ml_RX11_90) sv_yX11_isWithin pd_yX11_isWithin rfl (by decide) (Nat.le_of_ble_eq_true rfl) rfl dX11_stack_32 (T_X11_isWithin l E _ _ _ _ _) rfl ?_
    exact t_X11_stack_35 l E c0 s0 _ _ _ _ _ _ _ _ _ _
def f_X11_stack_12 (l0 : Nat) (l1 : Int32) (l2 : Int32) (l3 : Int32) (l4 : Int32) (l5 : Int32) (l6 : Int32) (y0 : Int32) (m : Mm) (o : Prop) : Int32 × Mm × Prop := if y0 = 0 then (f_X11_stack_53 l0 l1 l2 l3 l4 l5 l6 m o) else (bnd (F_X11_isWithin l4 (0 : Int32) (999 : Int32) m o) (fun v1 m1 o1 => f_X11_stack_24 l0 l1 l2 l3 l4 l5 l6 v1 m1 o1))
set_option maxRecDepth 10000 in
theorem t_X11_stack_12 (l : Launch) (E : En) (c0 s0 : Nat) (l0 : Nat) (l1 : Int32) (l2 : Int32) (l3 : Int32) (l4 : Int32) (l5 : Int32) (l6 : Int32) (y0 : Int32) (m : Mm) (o : Prop) : Mh wI l E mi_X11_stack c0 s0 12 [(0, .ref l0), (1, .int l1), (2, .int l2), (3, .int l3), (4, .int l4), (5, .int l5), (6, .int l6)] [.int y0] m o (f_X11_stack_12 l0 l1 l2 l3 l4 l5 l6 y0 m o) := by
  refine Mh_if_eq (tgt := 53) dX11_stack_12 (by decide) rfl (fun _ => ?_) (fun _ => ?_)
  · exact t_X11_stack_53 l E c0 s0 _ _ _ _ _ _ _ _ _
  · refine Mh_iload 4 rfl dX11_stack_15 ?_
    refine Mh_iconst (v := 0) dX11_stack_17 (by decide) ?_
    refine Mh_sipush (v := 999) dX11_stack_18 (by decide) ?_
    refine Mh_csI (N := mi_X11_isWithin) (as := [.int l4, .int (0 : Int32), .int (999 : Int32)]) (st := []) cg_yX11_isWithin (.inl ml_RX11_90) sv_yX11_isWithin pd_yX11_isWithin rfl (by decide) (Nat.le_of_ble_eq_true rfl) rfl dX11_stack_21 (T_X11_isWithin l E _ _ _ _ _) rfl ?_
    exact t_X11_stack_24 l E c0 s0 _ _ _ _ _ _ _ _ _ _
def f_X11_stack_5 (l0 : Nat) (l1 : Int32) (l2 : Int32) (l3 : Int32) (l4 : Int32) (l5 : Int32) (l6 : Int32) (y0 : Int32) (m : Mm) (o : Prop) : Int32 × Mm × Prop := if y0 = 0 then (f_X11_stack_53 l0 l1 l2 l3 l4 l5 l6 m o) else (bnd (F_X11_isColour l3 m o) (fun v1 m1 o1 => f_X11_stack_12 l0 l1 l2 l3 l4 l5 l6 v1 m1 o1))
set_option maxRecDepth 10000 in
theorem t_X11_stack_5 (l : Launch) (E : En) (c0 s0 : Nat) (l0 : Nat) (l1 : Int32) (l2 : Int32) (l3 : Int32) (l4 : Int32) (l5 : Int32) (l6 : Int32) (y0 : Int32) (m : Mm) (o : Prop) : Mh wI l E mi_X11_stack c0 s0 5 [(0, .ref l0), (1, .int l1), (2, .int l2), (3, .int l3), (4, .int l4), (5, .int l5), (6, .int l6)] [.int y0] m o (f_X11_stack_5 l0 l1 l2 l3 l4 l5 l6 y0 m o) := by
  refine Mh_if_eq (tgt := 53) dX11_stack_5 (by decide) rfl (fun _ => ?_) (fun _ => ?_)
  · exact t_X11_stack_53 l E c0 s0 _ _ _ _ _ _ _ _ _
  · refine Mh_iload_n 3 rfl dX11_stack_8 ?_
    refine Mh_csI (N := mi_X11_isColour) (as := [.int l3]) (st := []) cg_yX11_isColour (.inl ml_RX11_86) sv_yX11_isColour pd_yX11_isColour rfl (by decide) (Nat.le_of_ble_eq_true rfl) rfl dX11_stack_9 (T_X11_isColour l E _ _ _) rfl ?_
    exact t_X11_stack_12 l E c0 s0 _ _ _ _ _ _ _ _ _ _
def f_X11_stack_0 (l0 : Nat) (l1 : Int32) (l2 : Int32) (l3 : Int32) (l4 : Int32) (l5 : Int32) (l6 : Int32) (m : Mm) (o : Prop) : Int32 × Mm × Prop := bnd (F_X11_isSquare l1 l2 m o) (fun v1 m1 o1 => f_X11_stack_5 l0 l1 l2 l3 l4 l5 l6 v1 m1 o1)
set_option maxRecDepth 10000 in
theorem t_X11_stack_0 (l : Launch) (E : En) (c0 s0 : Nat) (l0 : Nat) (l1 : Int32) (l2 : Int32) (l3 : Int32) (l4 : Int32) (l5 : Int32) (l6 : Int32) (m : Mm) (o : Prop) : Mh wI l E mi_X11_stack c0 s0 0 [(0, .ref l0), (1, .int l1), (2, .int l2), (3, .int l3), (4, .int l4), (5, .int l5), (6, .int l6)] [] m o (f_X11_stack_0 l0 l1 l2 l3 l4 l5 l6 m o) := by
  refine Mh_iload_n 1 rfl dX11_stack_0 ?_
  refine Mh_iload_n 2 rfl dX11_stack_1 ?_
  refine Mh_csI (N := mi_X11_isSquare) (as := [.int l1, .int l2]) (st := []) cg_yX11_isSquare (.inl ml_RX11_82) sv_yX11_isSquare pd_yX11_isSquare rfl (by decide) (Nat.le_of_ble_eq_true rfl) rfl dX11_stack_2 (T_X11_isSquare l E _ _ _ _) rfl ?_
  exact t_X11_stack_5 l E c0 s0 _ _ _ _ _ _ _ _ _ _
def F_X11_stack (a0 : Nat) (a1 : Int32) (a2 : Int32) (a3 : Int32) (a4 : Int32) (a5 : Int32) (a6 : Int32) (m : Mm) (o : Prop) : Int32 × Mm × Prop := f_X11_stack_0 a0 a1 a2 a3 a4 a5 a6 m o
theorem T_X11_stack (l : Launch) (E : En) (a0 : Nat) (a1 : Int32) (a2 : Int32) (a3 : Int32) (a4 : Int32) (a5 : Int32) (a6 : Int32) (m : Mm) (o : Prop) : Mt wI l E yX11_stack mi_X11_stack [.ref a0, .int a1, .int a2, .int a3, .int a4, .int a5, .int a6] m o (F_X11_stack a0 a1 a2 a3 a4 a5 a6 m o) :=
  Mt_I (by decide) rfl rfl rfl (Nat.le_of_ble_eq_true rfl) rfl (.inl rfl) (t_X11_stack_0 l E _ _ _ _ _ _ _ _ _ _ _)
