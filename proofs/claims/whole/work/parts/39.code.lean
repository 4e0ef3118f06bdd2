def f_X12_dayOne_129 (k2 : Nat → Int32 → Mm → Prop → Unit × Mm × Prop) (l0 : Nat) (l1 : Int32) (m : Mm) (o : Prop) : Unit × Mm × Prop := k2 l0 (l1 + 1) m o
set_option maxRecDepth 10000 in
theorem t_X12_dayOne_129 (l : Launch) (E : En) (c0 s0 : Nat) (k2 : Nat → Int32 → Mm → Prop → Unit × Mm × Prop) (hk2 : ∀ (l0 : Nat) (l1 : Int32) (m : Mm) (o : Prop), Mh wU l E mi_X12_dayOne c0 s0 2 [(0, .ref l0), (1, .int l1)] [] m o (k2 l0 l1 m o)) (l0 : Nat) (l1 : Int32) (m : Mm) (o : Prop) : Mh wU l E mi_X12_dayOne c0 s0 129 [(0, .ref l0), (1, .int l1)] [] m o (f_X12_dayOne_129 k2 l0 l1 m o) := by
  refine Mh_iinc (v := l1 + 1) (lv' := [(1, .int (l1 + 1)), (0, .ref l0)]) 1 dX12_dayOne_129 rfl rfl (Nat.le_of_ble_eq_true rfl) rfl ?_
  refine Mh_goto (tgt := 2) dX12_dayOne_132 (by decide) ?_
  refine Mh_sub (lv' := [(0, .ref l0), (1, .int (l1 + 1))]) [1, 0] rfl ?_
  exact hk2 _ _ _ _
def f_X12_dayOne_117 (k2 : Nat → Int32 → Mm → Prop → Unit × Mm × Prop) (l0 : Nat) (l1 : Int32) (l2 : Int32) (m : Mm) (o : Prop) : Unit × Mm × Prop := f_X12_dayOne_129 k2 l0 l1 (sI m (gR m l0 18) (ix l1) (gI m (gR m l0 9) (ix l2))) ((((o ∧ (gT m l0 = 12 ∧ gR m l0 18 ≠ 0)) ∧ (gT m l0 = 12 ∧ gR m l0 9 ≠ 0)) ∧ (gT m (gR m l0 9) = 20 ∧ vp_in l2 (gN m (gR m l0 9)))) ∧ (gT m (gR m l0 18) = 20 ∧ vp_in l1 (gN m (gR m l0 18))))
set_option maxRecDepth 10000 in
theorem t_X12_dayOne_117 (l : Launch) (E : En) (c0 s0 : Nat) (k2 : Nat → Int32 → Mm → Prop → Unit × Mm × Prop) (hk2 : ∀ (l0 : Nat) (l1 : Int32) (m : Mm) (o : Prop), Mh wU l E mi_X12_dayOne c0 s0 2 [(0, .ref l0), (1, .int l1)] [] m o (k2 l0 l1 m o)) (l0 : Nat) (l1 : Int32) (l2 : Int32) (m : Mm) (o : Prop) : Mh wU l E mi_X12_dayOne c0 s0 117 [(0, .ref l0), (1, .int l1), (2, .int l2)] [] m o (f_X12_dayOne_117 k2 l0 l1 l2 m o) := by
  refine Mh_aload_n 0 rfl dX12_dayOne_117 ?_
  refine Mh_gR fd_11_18 fl_RX12_52 dX12_dayOne_118 ?_
  refine Mh_iload_n 1 rfl dX12_dayOne_121 ?_
  refine Mh_aload_n 0 rfl dX12_dayOne_122 ?_
  refine Mh_gR fd_11_9 fl_RX12_24 dX12_dayOne_123 ?_
  refine Mh_iload_n 2 rfl dX12_dayOne_126 ?_
  refine Mh_ial dX12_dayOne_127 ?_
  refine Mh_ias dX12_dayOne_128 ?_
  refine Mh_sub (lv' := [(0, .ref l0), (1, .int l1)]) [0, 1] rfl ?_
  exact t_X12_dayOne_129 l E c0 s0 k2 hk2 _ _ _ _
def f_X12_dayOne_97 (k2 : Nat → Int32 → Mm → Prop → Unit × Mm × Prop) (l0 : Nat) (l1 : Int32) (l2 : Int32) (m : Mm) (o : Prop) : Unit × Mm × Prop := f_X12_dayOne_117 k2 l0 l1 l2 (sI m (gR m l0 20) (ix (gI m (gR m l0 9) (ix l2))) ((gI m (gR m l0 20) (ix (gI m (gR m l0 9) (ix l2)))) + (gI m (gR m l0 16) (ix l1)))) ((((((o ∧ (gT m l0 = 12 ∧ gR m l0 20 ≠ 0)) ∧ (gT m l0 = 12 ∧ gR m l0 9 ≠ 0)) ∧ (gT m (gR m l0 9) = 20 ∧ vp_in l2 (gN m (gR m l0 9)))) ∧ (gT m (gR m l0 20) = 20 ∧ vp_in (gI m (gR m l0 9) (ix l2)) (gN m (gR m l0 20)))) ∧ (gT m l0 = 12 ∧ gR m l0 16 ≠ 0)) ∧ (gT m (gR m l0 16) = 20 ∧ vp_in l1 (gN m (gR m l0 16))))
set_option maxRecDepth 10000 in
theorem t_X12_dayOne_97 (l : Launch) (E : En) (c0 s0 : Nat) (k2 : Nat → Int32 → Mm → Prop → Unit × Mm × Prop) (hk2 : ∀ (l0 : Nat) (l1 : Int32) (m : Mm) (o : Prop), Mh wU l E mi_X12_dayOne c0 s0 2 [(0, .ref l0), (1, .int l1)] [] m o (k2 l0 l1 m o)) (l0 : Nat) (l1 : Int32) (l2 : Int32) (m : Mm) (o : Prop) : Mh wU l E mi_X12_dayOne c0 s0 97 [(0, .ref l0), (1, .int l1), (2, .int l2)] [] m o (f_X12_dayOne_97 k2 l0 l1 l2 m o) := by
  refine Mh_aload_n 0 rfl dX12_dayOne_97 ?_
  refine Mh_gR fd_11_20 fl_RX12_58 dX12_dayOne_98 ?_
  refine Mh_aload_n 0 rfl dX12_dayOne_101 ?_
  refine Mh_gR fd_11_9 fl_RX12_24 dX12_dayOne_102 ?_
  refine Mh_iload_n 2 rfl dX12_dayOne_105 ?_
  refine Mh_ial dX12_dayOne_106 ?_
  refine Mh_dup2 dX12_dayOne_107 rfl rfl ?_
  refine Mh_ial dX12_dayOne_108 ?_
  refine Mh_aload_n 0 rfl dX12_dayOne_109 ?_
  refine Mh_gR fd_11_16 fl_RX12_46 dX12_dayOne_110 ?_
  refine Mh_iload_n 1 rfl dX12_dayOne_113 ?_
  refine Mh_ial dX12_dayOne_114 ?_
  refine Mh_iadd dX12_dayOne_115 ?_
  refine Mh_ias dX12_dayOne_116 ?_
  refine Mh_ok (fun h => h.1.1.2) ?_
  exact t_X12_dayOne_117 l E c0 s0 k2 hk2 _ _ _ _ _
def f_X12_dayOne_82 (k2 : Nat → Int32 → Mm → Prop → Unit × Mm × Prop) (l0 : Nat) (l1 : Int32) (l2 : Int32) (l3 : Int32) (m : Mm) (o : Prop) : Unit × Mm × Prop := f_X12_dayOne_97 k2 l0 l1 l2 (sI m (gR m l0 21) (ix (((16 : Int32) * l2) + l1)) ((gI m (gR m l0 21) (ix (((16 : Int32) * l2) + l1))) + l3)) ((o ∧ (gT m l0 = 12 ∧ gR m l0 21 ≠ 0)) ∧ (gT m (gR m l0 21) = 20 ∧ vp_in (((16 : Int32) * l2) + l1) (gN m (gR m l0 21))))
set_option maxRecDepth 10000 in
theorem t_X12_dayOne_82 (l : Launch) (E : En) (c0 s0 : Nat) (k2 : Nat → Int32 → Mm → Prop → Unit × Mm × Prop) (hk2 : ∀ (l0 : Nat) (l1 : Int32) (m : Mm) (o : Prop), Mh wU l E mi_X12_dayOne c0 s0 2 [(0, .ref l0), (1, .int l1)] [] m o (k2 l0 l1 m o)) (l0 : Nat) (l1 : Int32) (l2 : Int32) (l3 : Int32) (m : Mm) (o : Prop) : Mh wU l E mi_X12_dayOne c0 s0 82 [(0, .ref l0), (1, .int l1), (2, .int l2), (3, .int l3)] [] m o (f_X12_dayOne_82 k2 l0 l1 l2 l3 m o) := by
  refine Mh_aload_n 0 rfl dX12_dayOne_82 ?_
  refine Mh_gR fd_11_21 fl_RX12_61 dX12_dayOne_83 ?_
  refine Mh_bipush (v := 16) dX12_dayOne_86 (by decide) ?_
  refine Mh_iload_n 2 rfl dX12_dayOne_88 ?_
  refine Mh_imul dX12_dayOne_89 ?_
  refine Mh_iload_n 1 rfl dX12_dayOne_90 ?_
  refine Mh_iadd dX12_dayOne_91 ?_
  refine Mh_dup2 dX12_dayOne_92 rfl rfl ?_
  refine Mh_ial dX12_dayOne_93 ?_
  refine Mh_iload_n 3 rfl dX12_dayOne_94 ?_
  refine Mh_iadd dX12_dayOne_95 ?_
  refine Mh_ias dX12_dayOne_96 ?_
  refine Mh_ok (fun h => h.2) ?_
  refine Mh_sub (lv' := [(0, .ref l0), (1, .int l1), (2, .int l2)]) [0, 1, 2] rfl ?_
  exact t_X12_dayOne_97 l E c0 s0 k2 hk2 _ _ _ _ _
def f_X12_dayOne_72 (k2 : Nat → Int32 → Mm → Prop → Unit × Mm × Prop) (l0 : Nat) (l1 : Int32) (l2 : Int32) (l3 : Int32) (m : Mm) (o : Prop) : Unit × Mm × Prop := f_X12_dayOne_82 k2 l0 l1 l2 l3 (sI m l0 51 ((gI m l0 51) + l3)) (o ∧ gT m l0 = 12)
set_option maxRecDepth 10000 in
theorem t_X12_dayOne_72 (l : Launch) (E : En) (c0 s0 : Nat) (k2 : Nat → Int32 → Mm → Prop → Unit × Mm × Prop) (hk2 : ∀ (l0 : Nat) (l1 : Int32) (m : Mm) (o : Prop), Mh wU l E mi_X12_dayOne c0 s0 2 [(0, .ref l0), (1, .int l1)] [] m o (k2 l0 l1 m o)) (l0 : Nat) (l1 : Int32) (l2 : Int32) (l3 : Int32) (m : Mm) (o : Prop) : Mh wU l E mi_X12_dayOne c0 s0 72 [(0, .ref l0), (1, .int l1), (2, .int l2), (3, .int l3)] [] m o (f_X12_dayOne_72 k2 l0 l1 l2 l3 m o) := by
  refine Mh_aload_n 0 rfl dX12_dayOne_72 ?_
  refine Mh_dup dX12_dayOne_73 rfl ?_
  refine Mh_gI fd_11_51 fl_RX12_390 dX12_dayOne_74 ?_
  refine Mh_iload_n 3 rfl dX12_dayOne_77 ?_
  refine Mh_iadd dX12_dayOne_78 ?_
  refine Mh_pI fd_11_51 ft_11 rfl fl_RX12_390 rfl dX12_dayOne_79 ?_
  refine Mh_ok (fun h => h.2) ?_
  exact t_X12_dayOne_82 l E c0 s0 k2 hk2 _ _ _ _ _ _
def f_X12_dayOne_61 (k2 : Nat → Int32 → Mm → Prop → Unit × Mm × Prop) (l0 : Nat) (l1 : Int32) (l2 : Int32) (y0 : Int32) (m : Mm) (o : Prop) : Unit × Mm × Prop := f_X12_dayOne_72 k2 l0 l1 l2 y0 (sI m (gR m l0 10) (ix l2) ((gI m (gR m l0 10) (ix l2)) - y0)) ((o ∧ (gT m l0 = 12 ∧ gR m l0 10 ≠ 0)) ∧ (gT m (gR m l0 10) = 20 ∧ vp_in l2 (gN m (gR m l0 10))))
set_option maxRecDepth 10000 in
theorem t_X12_dayOne_61 (l : Launch) (E : En) (c0 s0 : Nat) (k2 : Nat → Int32 → Mm → Prop → Unit × Mm × Prop) (hk2 : ∀ (l0 : Nat) (l1 : Int32) (m : Mm) (o : Prop), Mh wU l E mi_X12_dayOne c0 s0 2 [(0, .ref l0), (1, .int l1)] [] m o (k2 l0 l1 m o)) (l0 : Nat) (l1 : Int32) (l2 : Int32) (y0 : Int32) (m : Mm) (o : Prop) : Mh wU l E mi_X12_dayOne c0 s0 61 [(0, .ref l0), (1, .int l1), (2, .int l2)] [.int y0] m o (f_X12_dayOne_61 k2 l0 l1 l2 y0 m o) := by
  refine Mh_istore_n (lv' := [(3, .int y0), (0, .ref l0), (1, .int l1), (2, .int l2)]) dX12_dayOne_61 (Nat.le_of_ble_eq_true rfl) rfl ?_
  refine Mh_aload_n 1 rfl dX12_dayOne_62 ?_
  refine Mh_gR fd_11_10 fl_RX12_27 dX12_dayOne_63 ?_
  refine Mh_iload_n 3 rfl dX12_dayOne_66 ?_
  refine Mh_dup2 dX12_dayOne_67 rfl rfl ?_
  refine Mh_ial dX12_dayOne_68 ?_
  refine Mh_iload_n 0 rfl dX12_dayOne_69 ?_
  refine Mh_isub dX12_dayOne_70 ?_
  refine Mh_ias dX12_dayOne_71 ?_
  refine Mh_ok (fun h => h.2) ?_
  refine Mh_sub (lv' := [(0, .ref l0), (1, .int l1), (2, .int l2), (3, .int y0)]) [1, 2, 3, 0] rfl ?_
  exact t_X12_dayOne_72 l E c0 s0 k2 hk2 _ _ _ _ _ _
def f_X12_dayOne_23 (k2 : Nat → Int32 → Mm → Prop → Unit × Mm × Prop) (l0 : Nat) (l1 : Int32) (l2 : Int32) (m : Mm) (o : Prop) : Unit × Mm × Prop := if l2 = (-1 : Int32) then (f_X12_dayOne_129 k2 l0 l1 m o) else (if (gI m (gR m l0 10) (ix l2)) ≤ (gI m (gR m l0 17) (ix l1)) then (f_X12_dayOne_61 k2 l0 l1 l2 (gI m (gR m l0 10) (ix l2)) m ((((o ∧ (gT m l0 = 12 ∧ gR m l0 17 ≠ 0)) ∧ (gT m (gR m l0 17) = 20 ∧ vp_in l1 (gN m (gR m l0 17)))) ∧ (gT m l0 = 12 ∧ gR m l0 10 ≠ 0)) ∧ (gT m (gR m l0 10) = 20 ∧ vp_in l2 (gN m (gR m l0 10))))) else (f_X12_dayOne_61 k2 l0 l1 l2 (gI m (gR m l0 17) (ix l1)) m ((((o ∧ (gT m l0 = 12 ∧ gR m l0 17 ≠ 0)) ∧ (gT m (gR m l0 17) = 20 ∧ vp_in l1 (gN m (gR m l0 17)))) ∧ (gT m l0 = 12 ∧ gR m l0 10 ≠ 0)) ∧ (gT m (gR m l0 10) = 20 ∧ vp_in l2 (gN m (gR m l0 10))))))
set_option maxRecDepth 10000 in
theorem t_X12_dayOne_23 (l : Launch) (E : En) (c0 s0 : Nat) (k2 : Nat → Int32 → Mm → Prop → Unit × Mm × Prop) (hk2 : ∀ (l0 : Nat) (l1 : Int32) (m : Mm) (o : Prop), Mh wU l E mi_X12_dayOne c0 s0 2 [(0, .ref l0), (1, .int l1)] [] m o (k2 l0 l1 m o)) (l0 : Nat) (l1 : Int32) (l2 : Int32) (m : Mm) (o : Prop) : Mh wU l E mi_X12_dayOne c0 s0 23 [(0, .ref l0), (1, .int l1), (2, .int l2)] [] m o (f_X12_dayOne_23 k2 l0 l1 l2 m o) := by
  refine Mh_iload_n 2 rfl dX12_dayOne_23 ?_
  refine Mh_iconst (v := (-1)) dX12_dayOne_24 (by decide) ?_
  refine Mh_icmp_ne (tgt := 31) dX12_dayOne_25 (by decide) rfl (fun _ => ?_) (fun _ => ?_)
  · refine Mh_aload_n 0 rfl dX12_dayOne_31 ?_
    refine Mh_gR fd_11_17 fl_RX12_49 dX12_dayOne_32 ?_
    refine Mh_iload_n 1 rfl dX12_dayOne_35 ?_
    refine Mh_ial dX12_dayOne_36 ?_
    refine Mh_aload_n 0 rfl dX12_dayOne_37 ?_
    refine Mh_gR fd_11_10 fl_RX12_27 dX12_dayOne_38 ?_
    refine Mh_iload_n 2 rfl dX12_dayOne_41 ?_
    refine Mh_ial dX12_dayOne_42 ?_
    refine Mh_icmp_ge (tgt := 55) dX12_dayOne_43 (by decide) rfl (fun _ => ?_) (fun _ => ?_)
    · refine Mh_aload_n 0 rfl dX12_dayOne_55 ?_
      refine Mh_gR fd_11_10 fl_RX12_27 dX12_dayOne_56 ?_
      refine Mh_ok (fun h => h.1.2) ?_
      refine Mh_iload_n 2 rfl dX12_dayOne_59 ?_
      refine Mh_ial dX12_dayOne_60 ?_
      refine Mh_ok (fun h => h.2) ?_
      exact t_X12_dayOne_61 l E c0 s0 k2 hk2 _ _ _ _ _ _
    · refine Mh_aload_n 0 rfl dX12_dayOne_46 ?_
      refine Mh_gR fd_11_17 fl_RX12_49 dX12_dayOne_47 ?_
      refine Mh_ok (fun h => h.1.1.1.2) ?_
      refine Mh_iload_n 1 rfl dX12_dayOne_50 ?_
      refine Mh_ial dX12_dayOne_51 ?_
      refine Mh_ok (fun h => h.1.1.2) ?_
      refine Mh_goto (tgt := 61) dX12_dayOne_52 (by decide) ?_
      exact t_X12_dayOne_61 l E c0 s0 k2 hk2 _ _ _ _ _ _
  · refine Mh_goto (tgt := 129) dX12_dayOne_28 (by decide) ?_
    refine Mh_sub (lv' := [(0, .ref l0), (1, .int l1)]) [0, 1] rfl ?_
    exact t_X12_dayOne_129 l E c0 s0 k2 hk2 _ _ _ _
def f_X12_dayOne_15 (k2 : Nat → Int32 → Mm → Prop → Unit × Mm × Prop) (l0 : Nat) (l1 : Int32) (y0 : Int32) (m : Mm) (o : Prop) : Unit × Mm × Prop := f_X12_dayOne_23 k2 l0 l1 y0 (sI m (gR m l0 49) (ix l1) y0) ((o ∧ (gT m l0 = 12 ∧ gR m l0 49 ≠ 0)) ∧ (gT m (gR m l0 49) = 20 ∧ vp_in l1 (gN m (gR m l0 49))))
set_option maxRecDepth 10000 in
theorem t_X12_dayOne_15 (l : Launch) (E : En) (c0 s0 : Nat) (k2 : Nat → Int32 → Mm → Prop → Unit × Mm × Prop) (hk2 : ∀ (l0 : Nat) (l1 : Int32) (m : Mm) (o : Prop), Mh wU l E mi_X12_dayOne c0 s0 2 [(0, .ref l0), (1, .int l1)] [] m o (k2 l0 l1 m o)) (l0 : Nat) (l1 : Int32) (y0 : Int32) (m : Mm) (o : Prop) : Mh wU l E mi_X12_dayOne c0 s0 15 [(0, .ref l0), (1, .int l1)] [.int y0] m o (f_X12_dayOne_15 k2 l0 l1 y0 m o) := by
  refine Mh_istore_n (lv' := [(2, .int y0), (0, .ref l0), (1, .int l1)]) dX12_dayOne_15 (Nat.le_of_ble_eq_true rfl) rfl ?_
  refine Mh_aload_n 1 rfl dX12_dayOne_16 ?_
  refine Mh_gR fd_11_49 fl_RX12_109 dX12_dayOne_17 ?_
  refine Mh_iload_n 2 rfl dX12_dayOne_20 ?_
  refine Mh_iload_n 0 rfl dX12_dayOne_21 ?_
  refine Mh_ias dX12_dayOne_22 ?_
  refine Mh_sub (lv' := [(0, .ref l0), (1, .int l1), (2, .int y0)]) [1, 2, 0] rfl ?_
  exact t_X12_dayOne_23 l E c0 s0 k2 hk2 _ _ _ _ _
def f_X12_dayOne_223 (k137 : Nat → Int32 → Mm → Prop → Unit × Mm × Prop) (l0 : Nat) (l1 : Int32) (m : Mm) (o : Prop) : Unit × Mm × Prop := k137 l0 (l1 + 1) m o
set_option maxRecDepth 10000 in
theorem t_X12_dayOne_223 (l : Launch) (E : En) (c0 s0 : Nat) (k137 : Nat → Int32 → Mm → Prop → Unit × Mm × Prop) (hk137 : ∀ (l0 : Nat) (l1 : Int32) (m : Mm) (o : Prop), Mh wU l E mi_X12_dayOne c0 s0 137 [(0, .ref l0), (1, .int l1)] [] m o (k137 l0 l1 m o)) (l0 : Nat) (l1 : Int32) (m : Mm) (o : Prop) : Mh wU l E mi_X12_dayOne c0 s0 223 [(0, .ref l0), (1, .int l1)] [] m o (f_X12_dayOne_223 k137 l0 l1 m o) := by
  refine Mh_iinc (v := l1 + 1) (lv' := [(1, .int (l1 + 1)), (0, .ref l0)]) 1 dX12_dayOne_223 rfl rfl (Nat.le_of_ble_eq_true rfl) rfl ?_
  refine Mh_goto (tgt := 137) dX12_dayOne_226 (by decide) ?_
  refine Mh_sub (lv' := [(0, .ref l0), (1, .int (l1 + 1))]) [1, 0] rfl ?_
  exact hk137 _ _ _ _
def f_X12_dayOne_213 (k137 : Nat → Int32 → Mm → Prop → Unit × Mm × Prop) (l0 : Nat) (l1 : Int32) (m : Mm) (o : Prop) : Unit × Mm × Prop := f_X12_dayOne_223 k137 l0 l1 (sI m l0 50 ((gI m l0 50) + (1 : Int32))) (o ∧ gT m l0 = 12)
set_option maxRecDepth 10000 in
theorem t_X12_dayOne_213 (l : Launch) (E : En) (c0 s0 : Nat) (k137 : Nat → Int32 → Mm → Prop → Unit × Mm × Prop) (hk137 : ∀ (l0 : Nat) (l1 : Int32) (m : Mm) (o : Prop), Mh wU l E mi_X12_dayOne c0 s0 137 [(0, .ref l0), (1, .int l1)] [] m o (k137 l0 l1 m o)) (l0 : Nat) (l1 : Int32) (m : Mm) (o : Prop) : Mh wU l E mi_X12_dayOne c0 s0 213 [(0, .ref l0), (1, .int l1)] [] m o (f_X12_dayOne_213 k137 l0 l1 m o) := by
  refine Mh_aload_n 0 rfl dX12_dayOne_213 ?_
  refine Mh_dup dX12_dayOne_214 rfl ?_
  refine Mh_gI fd_11_50 fl_RX12_393 dX12_dayOne_215 ?_
  refine Mh_iconst (v := 1) dX12_dayOne_218 (by decide) ?_
  refine Mh_iadd dX12_dayOne_219 ?_
  refine Mh_pI fd_11_50 ft_11 rfl fl_RX12_393 rfl dX12_dayOne_220 ?_
  refine Mh_ok (fun h => h.2) ?_
  exact t_X12_dayOne_223 l E c0 s0 k137 hk137 _ _ _ _
def f_X12_dayOne_206 (k137 : Nat → Int32 → Mm → Prop → Unit × Mm × Prop) (l0 : Nat) (l1 : Int32) (m : Mm) (o : Prop) : Unit × Mm × Prop := f_X12_dayOne_213 k137 l0 l1 (sI m (gR m l0 10) (ix l1) (0 : Int32)) ((o ∧ (gT m l0 = 12 ∧ gR m l0 10 ≠ 0)) ∧ (gT m (gR m l0 10) = 20 ∧ vp_in l1 (gN m (gR m l0 10))))
set_option maxRecDepth 10000 in
theorem t_X12_dayOne_206 (l : Launch) (E : En) (c0 s0 : Nat) (k137 : Nat → Int32 → Mm → Prop → Unit × Mm × Prop) (hk137 : ∀ (l0 : Nat) (l1 : Int32) (m : Mm) (o : Prop), Mh wU l E mi_X12_dayOne c0 s0 137 [(0, .ref l0), (1, .int l1)] [] m o (k137 l0 l1 m o)) (l0 : Nat) (l1 : Int32) (m : Mm) (o : Prop) : Mh wU l E mi_X12_dayOne c0 s0 206 [(0, .ref l0), (1, .int l1)] [] m o (f_X12_dayOne_206 k137 l0 l1 m o) := by
  refine Mh_aload_n 0 rfl dX12_dayOne_206 ?_
  refine Mh_gR fd_11_10 fl_RX12_27 dX12_dayOne_207 ?_
  refine Mh_iload_n 1 rfl dX12_dayOne_210 ?_
  refine Mh_iconst (v := 0) dX12_dayOne_211 (by decide) ?_
  refine Mh_ias dX12_dayOne_212 ?_
  exact t_X12_dayOne_213 l E c0 s0 k137 hk137 _ _ _ _
def f_X12_dayOne_184 (k137 : Nat → Int32 → Mm → Prop → Unit × Mm × Prop) (l0 : Nat) (l1 : Int32) (m : Mm) (o : Prop) : Unit × Mm × Prop := if (500 : Int32) ≤ (gI m (gR m l0 13) (ix l1)) then (f_X12_dayOne_206 k137 l0 l1 (sI m (gR m l0 14) (ix l1) ((0 : Int32) &&& 1)) ((((o ∧ (gT m l0 = 12 ∧ gR m l0 13 ≠ 0)) ∧ (gT m (gR m l0 13) = 20 ∧ vp_in l1 (gN m (gR m l0 13)))) ∧ (gT m l0 = 12 ∧ gR m l0 14 ≠ 0)) ∧ (gT m (gR m l0 14) = 22 ∧ vp_in l1 (gN m (gR m l0 14))))) else (f_X12_dayOne_223 k137 l0 l1 m ((o ∧ (gT m l0 = 12 ∧ gR m l0 13 ≠ 0)) ∧ (gT m (gR m l0 13) = 20 ∧ vp_in l1 (gN m (gR m l0 13)))))
set_option maxRecDepth 10000 in
theorem t_X12_dayOne_184 (l : Launch) (E : En) (c0 s0 : Nat) (k137 : Nat → Int32 → Mm → Prop → Unit × Mm × Prop) (hk137 : ∀ (l0 : Nat) (l1 : Int32) (m : Mm) (o : Prop), Mh wU l E mi_X12_dayOne c0 s0 137 [(0, .ref l0), (1, .int l1)] [] m o (k137 l0 l1 m o)) (l0 : Nat) (l1 : Int32) (m : Mm) (o : Prop) : Mh wU l E mi_X12_dayOne c0 s0 184 [(0, .ref l0), (1, .int l1)] [] m o (f_X12_dayOne_184 k137 l0 l1 m o) := by
  refine Mh_aload_n 0 rfl dX12_dayOne_184 ?_
  refine Mh_gR fd_11_13 fl_RX12_36 dX12_dayOne_185 ?_
  refine Mh_iload_n 1 rfl dX12_dayOne_188 ?_
  refine Mh_ial dX12_dayOne_189 ?_
  refine Mh_sipush (v := 500) dX12_dayOne_190 (by decide) ?_
  refine Mh_icmp_ge (tgt := 199) dX12_dayOne_193 (by decide) rfl (fun _ => ?_) (fun _ => ?_)
  · refine Mh_aload_n 0 rfl dX12_dayOne_199 ?_
    refine Mh_gR fd_11_14 fl_RX12_39 dX12_dayOne_200 ?_
    refine Mh_iload_n 1 rfl dX12_dayOne_203 ?_
    refine Mh_iconst (v := 0) dX12_dayOne_204 (by decide) ?_
    refine Mh_zas dX12_dayOne_205 ?_
    exact t_X12_dayOne_206 l E c0 s0 k137 hk137 _ _ _ _
  · refine Mh_goto (tgt := 223) dX12_dayOne_196 (by decide) ?_
    exact t_X12_dayOne_223 l E c0 s0 k137 hk137 _ _ _ _
def f_X12_dayOne_182 (k137 : Nat → Int32 → Mm → Prop → Unit × Mm × Prop) (l0 : Nat) (l1 : Int32) (y3 : Int32) (y2 : Int32) (y1 : Int32) (y0 : Nat) (m : Mm) (o : Prop) : Unit × Mm × Prop := f_X12_dayOne_184 k137 l0 l1 (sI m y0 (ix y1) (y2 + y3)) (o ∧ (gT m y0 = 20 ∧ vp_in y1 (gN m y0)))
set_option maxRecDepth 10000 in
theorem t_X12_dayOne_182 (l : Launch) (E : En) (c0 s0 : Nat) (k137 : Nat → Int32 → Mm → Prop → Unit × Mm × Prop) (hk137 : ∀ (l0 : Nat) (l1 : Int32) (m : Mm) (o : Prop), Mh wU l E mi_X12_dayOne c0 s0 137 [(0, .ref l0), (1, .int l1)] [] m o (k137 l0 l1 m o)) (l0 : Nat) (l1 : Int32) (y3 : Int32) (y2 : Int32) (y1 : Int32) (y0 : Nat) (m : Mm) (o : Prop) : Mh wU l E mi_X12_dayOne c0 s0 182 [(0, .ref l0), (1, .int l1)] [.int y3, .int y2, .int y1, .ref y0] m o (f_X12_dayOne_182 k137 l0 l1 y3 y2 y1 y0 m o) := by
  refine Mh_iadd dX12_dayOne_182 ?_
  refine Mh_ias dX12_dayOne_183 ?_
  exact t_X12_dayOne_184 l E c0 s0 k137 hk137 _ _ _ _
def f_X12_dayOne_167 (k137 : Nat → Int32 → Mm → Prop → Unit × Mm × Prop) (l0 : Nat) (l1 : Int32) (m : Mm) (o : Prop) : Unit × Mm × Prop := bnd (F_X12_tells l0 (103 : Int32) (99 : Int32) m (((o ∧ (gT m l0 = 12 ∧ gR m l0 13 ≠ 0)) ∧ (gT m (gR m l0 13) = 20 ∧ vp_in l1 (gN m (gR m l0 13)))) ∧ gT m l0 = 12)) (fun v1 m1 o1 => f_X12_dayOne_182 k137 l0 l1 v1 (gI m (gR m l0 13) (ix l1)) l1 (gR m l0 13) m1 o1)
set_option maxRecDepth 10000 in
theorem t_X12_dayOne_167 (l : Launch) (E : En) (c0 s0 : Nat) (k137 : Nat → Int32 → Mm → Prop → Unit × Mm × Prop) (hk137 : ∀ (l0 : Nat) (l1 : Int32) (m : Mm) (o : Prop), Mh wU l E mi_X12_dayOne c0 s0 137 [(0, .ref l0), (1, .int l1)] [] m o (k137 l0 l1 m o)) (l0 : Nat) (l1 : Int32) (m : Mm) (o : Prop) : Mh wU l E mi_X12_dayOne c0 s0 167 [(0, .ref l0), (1, .int l1)] [] m o (f_X12_dayOne_167 k137 l0 l1 m o) := by
  refine Mh_aload_n 0 rfl dX12_dayOne_167 ?_
  refine Mh_gR fd_11_13 fl_RX12_36 dX12_dayOne_168 ?_
  refine Mh_iload_n 1 rfl dX12_dayOne_171 ?_
  refine Mh_dup2 dX12_dayOne_172 rfl rfl ?_
  refine Mh_ial dX12_dayOne_173 ?_
  refine Mh_aload_n 0 rfl dX12_dayOne_174 ?_
  refine Mh_bipush (v := 103) dX12_dayOne_175 (by decide) ?_
  refine Mh_bipush (v := 99) dX12_dayOne_177 (by decide) ?_
  refine Mh_cvI (N := mi_X12_tells) (q := l0) (ci := 11) (as := [.int (103 : Int32), .int (99 : Int32)]) (st := [.int (gI m (gR m l0 13) (ix l1)), .int l1, .ref (gR m l0 13)]) (id) cg_yX12_tells (by decide) rfl rfl ml_RX12_381 iv_yX12_tells pd_yX12_tells rfl (by decide) (Nat.le_of_ble_eq_true rfl) rfl dX12_dayOne_179 (T_X12_tells l E _ _ _ _ _) rfl ?_
  exact t_X12_dayOne_182 l E c0 s0 k137 hk137 _ _ _ _ _ _ _ _
def f_X12_dayOne_162 (k137 : Nat → Int32 → Mm → Prop → Unit × Mm × Prop) (l0 : Nat) (l1 : Int32) (m : Mm) (o : Prop) : Unit × Mm × Prop := f_X12_dayOne_167 k137 l0 l1 (sI m l0 46 (-1 : Int32)) (o ∧ gT m l0 = 12)
set_option maxRecDepth 10000 in
theorem t_X12_dayOne_162 (l : Launch) (E : En) (c0 s0 : Nat) (k137 : Nat → Int32 → Mm → Prop → Unit × Mm × Prop) (hk137 : ∀ (l0 : Nat) (l1 : Int32) (m : Mm) (o : Prop), Mh wU l E mi_X12_dayOne c0 s0 137 [(0, .ref l0), (1, .int l1)] [] m o (k137 l0 l1 m o)) (l0 : Nat) (l1 : Int32) (m : Mm) (o : Prop) : Mh wU l E mi_X12_dayOne c0 s0 162 [(0, .ref l0), (1, .int l1)] [] m o (f_X12_dayOne_162 k137 l0 l1 m o) := by
  refine Mh_aload_n 0 rfl dX12_dayOne_162 ?_
  refine Mh_iconst (v := (-1)) dX12_dayOne_163 (by decide) ?_
  refine Mh_pI fd_11_46 ft_11 rfl fl_RX12_349 rfl dX12_dayOne_164 ?_
  exact t_X12_dayOne_167 l E c0 s0 k137 hk137 _ _ _ _
def f_X12_dayOne_239 (m : Mm) (o : Prop) : Unit × Mm × Prop := ((), m, o)
set_option maxRecDepth 10000 in
theorem t_X12_dayOne_239 (l : Launch) (E : En) (c0 s0 : Nat) (m : Mm) (o : Prop) : Mh wU l E mi_X12_dayOne c0 s0 239 [] [] m o (f_X12_dayOne_239  m o) := by
  exact Mh_ret dX12_dayOne_239 rfl (fun _ => trivial) rfl
def f_X12_dayOne_137b (k137 : Nat → Int32 → Mm → Prop → Unit × Mm × Prop) (l0 : Nat) (l1 : Int32) (m : Mm) (o : Prop) : Unit × Mm × Prop := if (gI m l0 2) ≤ l1 then (f_X12_dayOne_239  (sI m l0 4 ((gI m l0 4) + (1 : Int32))) (o ∧ gT m l0 = 12)) else (if (gI m (gR m l0 14) (ix l1)) = 0 then (f_X12_dayOne_223 k137 l0 l1 m (((o ∧ gT m l0 = 12) ∧ (gT m l0 = 12 ∧ gR m l0 14 ≠ 0)) ∧ (gT m (gR m l0 14) = 22 ∧ vp_in l1 (gN m (gR m l0 14))))) else (f_X12_dayOne_162 k137 l0 l1 (sI m l0 45 l1) (((o ∧ gT m l0 = 12) ∧ (gT m l0 = 12 ∧ gR m l0 14 ≠ 0)) ∧ (gT m (gR m l0 14) = 22 ∧ vp_in l1 (gN m (gR m l0 14))))))
set_option maxRecDepth 10000 in
theorem t_X12_dayOne_137b (l : Launch) (E : En) (c0 s0 : Nat) (k137 : Nat → Int32 → Mm → Prop → Unit × Mm × Prop) (hk137 : ∀ (l0 : Nat) (l1 : Int32) (m : Mm) (o : Prop), Mh wU l E mi_X12_dayOne c0 s0 137 [(0, .ref l0), (1, .int l1)] [] m o (k137 l0 l1 m o)) (l0 : Nat) (l1 : Int32) (m : Mm) (o : Prop) : Mh wU l E mi_X12_dayOne c0 s0 137 [(0, .ref l0), (1, .int l1)] [] m o (f_X12_dayOne_137b k137 l0 l1 m o) := by
  refine Mh_iload_n 1 rfl dX12_dayOne_137 ?_
  refine Mh_aload_n 0 rfl dX12_dayOne_138 ?_
  refine Mh_gI fd_11_2 fl_RX12_192 dX12_dayOne_139 ?_
  refine Mh_icmp_ge (tgt := 229) dX12_dayOne_142 (by decide) rfl (fun _ => ?_) (fun _ => ?_)
  · refine Mh_aload_n 0 rfl dX12_dayOne_229 ?_
    refine Mh_dup dX12_dayOne_230 rfl ?_
    refine Mh_gI fd_11_4 fl_RX12_359 dX12_dayOne_231 ?_
    refine Mh_ok (fun h => h.2) ?_
    refine Mh_iconst (v := 1) dX12_dayOne_234 (by decide) ?_
    refine Mh_iadd dX12_dayOne_235 ?_
    refine Mh_pI fd_11_4 ft_11 rfl fl_RX12_359 rfl dX12_dayOne_236 ?_
    refine Mh_ok (fun h => h.2) ?_
    refine Mh_sub (lv' := []) [] rfl ?_
    exact t_X12_dayOne_239 l E c0 s0  _ _
  · refine Mh_aload_n 0 rfl dX12_dayOne_145 ?_
    refine Mh_gR fd_11_14 fl_RX12_39 dX12_dayOne_146 ?_
    refine Mh_iload_n 1 rfl dX12_dayOne_149 ?_
    refine Mh_zal dX12_dayOne_150 ?_
    refine Mh_if_ne (tgt := 157) dX12_dayOne_151 (by decide) rfl (fun _ => ?_) (fun _ => ?_)
    · refine Mh_aload_n 0 rfl dX12_dayOne_157 ?_
      refine Mh_iload_n 1 rfl dX12_dayOne_158 ?_
      refine Mh_pI fd_11_45 ft_11 rfl fl_RX12_352 rfl dX12_dayOne_159 ?_
      refine Mh_ok (fun h => h.1.1.2) ?_
      exact t_X12_dayOne_162 l E c0 s0 k137 hk137 _ _ _ _
    · refine Mh_goto (tgt := 223) dX12_dayOne_154 (by decide) ?_
      exact t_X12_dayOne_223 l E c0 s0 k137 hk137 _ _ _ _
def f_X12_dayOne_137 : Nat → Nat → Int32 → Mm → Prop → Unit × Mm × Prop
  | 0, _, _, m, _ => ((), m, False)
  | n + 1, l0, l1, m, o => f_X12_dayOne_137b (f_X12_dayOne_137 n) l0 l1 m o
theorem t_X12_dayOne_137 (l : Launch) (E : En) (c0 s0 : Nat) : ∀ (n : Nat) (l0 : Nat) (l1 : Int32) (m : Mm) (o : Prop), Mh wU l E mi_X12_dayOne c0 s0 137 [(0, .ref l0), (1, .int l1)] [] m o (f_X12_dayOne_137 n l0 l1 m o)
  | 0, _, _, _, _ => Mh_out rfl
  | n + 1, l0, l1, m, o => t_X12_dayOne_137b l E c0 s0 (f_X12_dayOne_137 n) (t_X12_dayOne_137 l E c0 s0 n) l0 l1 m o
def f_X12_dayOne_2b (k2 : Nat → Int32 → Mm → Prop → Unit × Mm × Prop) (l0 : Nat) (l1 : Int32) (m : Mm) (o : Prop) : Unit × Mm × Prop := if (gI m l0 3) ≤ l1 then (f_X12_dayOne_137 1000 l0 (0 : Int32) m (o ∧ gT m l0 = 12)) else (bnd (F_X12_choice l0 l1 m (o ∧ gT m l0 = 12)) (fun v1 m1 o1 => f_X12_dayOne_15 k2 l0 l1 v1 m1 o1))
set_option maxRecDepth 10000 in
theorem t_X12_dayOne_2b (l : Launch) (E : En) (c0 s0 : Nat) (k2 : Nat → Int32 → Mm → Prop → Unit × Mm × Prop) (hk2 : ∀ (l0 : Nat) (l1 : Int32) (m : Mm) (o : Prop), Mh wU l E mi_X12_dayOne c0 s0 2 [(0, .ref l0), (1, .int l1)] [] m o (k2 l0 l1 m o)) (l0 : Nat) (l1 : Int32) (m : Mm) (o : Prop) : Mh wU l E mi_X12_dayOne c0 s0 2 [(0, .ref l0), (1, .int l1)] [] m o (f_X12_dayOne_2b k2 l0 l1 m o) := by
  refine Mh_iload_n 1 rfl dX12_dayOne_2 ?_
  refine Mh_aload_n 0 rfl dX12_dayOne_3 ?_
  refine Mh_gI fd_11_3 fl_RX12_199 dX12_dayOne_4 ?_
  refine Mh_icmp_ge (tgt := 135) dX12_dayOne_7 (by decide) rfl (fun _ => ?_) (fun _ => ?_)
  · refine Mh_iconst (v := 0) dX12_dayOne_135 (by decide) ?_
    refine Mh_istore_n (lv' := [(1, .int (0 : Int32)), (0, .ref l0)]) dX12_dayOne_136 (Nat.le_of_ble_eq_true rfl) rfl ?_
    refine Mh_sub (lv' := [(0, .ref l0), (1, .int (0 : Int32))]) [1, 0] rfl ?_
    exact t_X12_dayOne_137 l E c0 s0 _ _ _ _ _
  · refine Mh_aload_n 0 rfl dX12_dayOne_10 ?_
    refine Mh_iload_n 1 rfl dX12_dayOne_11 ?_
    refine Mh_cvI (N := mi_X12_choice) (q := l0) (ci := 11) (as := [.int l1]) (st := []) (fun h => ⟨h, (fun h => h.2) h⟩) cg_yX12_choice (by decide) rfl rfl ml_RX12_387 iv_yX12_choice pd_yX12_choice rfl (by decide) (Nat.le_of_ble_eq_true rfl) rfl dX12_dayOne_12 (T_X12_choice l E _ _ _ _) rfl ?_
    exact t_X12_dayOne_15 l E c0 s0 k2 hk2 _ _ _ _ _
def f_X12_dayOne_2 : Nat → Nat → Int32 → Mm → Prop → Unit × Mm × Prop
  | 0, _, _, m, _ => ((), m, False)
  | n + 1, l0, l1, m, o => f_X12_dayOne_2b (f_X12_dayOne_2 n) l0 l1 m o
theorem t_X12_dayOne_2 (l : Launch) (E : En) (c0 s0 : Nat) : ∀ (n : Nat) (l0 : Nat) (l1 : Int32) (m : Mm) (o : Prop), Mh wU l E mi_X12_dayOne c0 s0 2 [(0, .ref l0), (1, .int l1)] [] m o (f_X12_dayOne_2 n l0 l1 m o)
  | 0, _, _, _, _ => Mh_out rfl
  | n + 1, l0, l1, m, o => t_X12_dayOne_2b l E c0 s0 (f_X12_dayOne_2 n) (t_X12_dayOne_2 l E c0 s0 n) l0 l1 m o
def f_X12_dayOne_0 (l0 : Nat) (m : Mm) (o : Prop) : Unit × Mm × Prop := f_X12_dayOne_2 1000 l0 (0 : Int32) m o
set_option maxRecDepth 10000 in
theorem t_X12_dayOne_0 (l : Launch) (E : En) (c0 s0 : Nat) (l0 : Nat) (m : Mm) (o : Prop) : Mh wU l E mi_X12_dayOne c0 s0 0 [(0, .ref l0)] [] m o (f_X12_dayOne_0 l0 m o) := by
  refine Mh_iconst (v := 0) dX12_dayOne_0 (by decide) ?_
  refine Mh_istore_n (lv' := [(1, .int (0 : Int32)), (0, .ref l0)]) dX12_dayOne_1 (Nat.le_of_ble_eq_true rfl) rfl ?_
  refine Mh_sub (lv' := [(0, .ref l0), (1, .int (0 : Int32))]) [1, 0] rfl ?_
  exact t_X12_dayOne_2 l E c0 s0 _ _ _ _ _
def F_X12_dayOne (a0 : Nat) (m : Mm) (o : Prop) : Unit × Mm × Prop := f_X12_dayOne_0 a0 m o
theorem T_X12_dayOne (l : Launch) (E : En) (a0 : Nat) (m : Mm) (o : Prop) : Mt wU l E yX12_dayOne mi_X12_dayOne [.ref a0] m o (F_X12_dayOne a0 m o) :=
  Mt_U (by decide) rfl (fun h => by cases h) rfl (Nat.le_of_ble_eq_true rfl) rfl (t_X12_dayOne_0 l E _ _ _ _ _)
def f_X12_runs_16 (k7 : Nat → Int32 → Int32 → Mm → Prop → Unit × Mm × Prop) (l0 : Nat) (l1 : Int32) (l2 : Int32) (m : Mm) (o : Prop) : Unit × Mm × Prop := k7 l0 l1 (l2 + 1) m o
set_option maxRecDepth 10000 in
theorem t_X12_runs_16 (l : Launch) (E : En) (c0 s0 : Nat) (k7 : Nat → Int32 → Int32 → Mm → Prop → Unit × Mm × Prop) (hk7 : ∀ (l0 : Nat) (l1 : Int32) (l2 : Int32) (m : Mm) (o : Prop), Mh wU l E mi_X12_runs c0 s0 7 [(0, .ref l0), (1, .int l1), (2, .int l2)] [] m o (k7 l0 l1 l2 m o)) (l0 : Nat) (l1 : Int32) (l2 : Int32) (m : Mm) (o : Prop) : Mh wU l E mi_X12_runs c0 s0 16 [(0, .ref l0), (1, .int l1), (2, .int l2)] [] m o (f_X12_runs_16 k7 l0 l1 l2 m o) := by
  refine Mh_iinc (v := l2 + 1) (lv' := [(2, .int (l2 + 1)), (0, .ref l0), (1, .int l1)]) 2 dX12_runs_16 rfl rfl (Nat.le_of_ble_eq_true rfl) rfl ?_
  refine Mh_goto (tgt := 7) dX12_runs_19 (by decide) ?_
  refine Mh_sub (lv' := [(0, .ref l0), (1, .int l1), (2, .int (l2 + 1))]) [1, 2, 0] rfl ?_
  exact hk7 _ _ _ _ _
def f_X12_runs_48 (k24 : Nat → Int32 → Mm → Prop → Unit × Mm × Prop) (l0 : Nat) (l2 : Int32) (m : Mm) (o : Prop) : Unit × Mm × Prop := k24 l0 (l2 + 1) m o
set_option maxRecDepth 10000 in
theorem t_X12_runs_48 (l : Launch) (E : En) (c0 s0 : Nat) (k24 : Nat → Int32 → Mm → Prop → Unit × Mm × Prop) (hk24 : ∀ (l0 : Nat) (l2 : Int32) (m : Mm) (o : Prop), Mh wU l E mi_X12_runs c0 s0 24 [(0, .ref l0), (2, .int l2)] [] m o (k24 l0 l2 m o)) (l0 : Nat) (l2 : Int32) (m : Mm) (o : Prop) : Mh wU l E mi_X12_runs c0 s0 48 [(0, .ref l0), (2, .int l2)] [] m o (f_X12_runs_48 k24 l0 l2 m o) := by
  refine Mh_iinc (v := l2 + 1) (lv' := [(2, .int (l2 + 1)), (0, .ref l0)]) 1 dX12_runs_48 rfl rfl (Nat.le_of_ble_eq_true rfl) rfl ?_
  refine Mh_goto (tgt := 24) dX12_runs_51 (by decide) ?_
  refine Mh_sub (lv' := [(0, .ref l0), (2, .int (l2 + 1))]) [1, 0] rfl ?_
  exact hk24 _ _ _ _
def f_X12_runs_24b (k24 : Nat → Int32 → Mm → Prop → Unit × Mm × Prop) (l0 : Nat) (l2 : Int32) (m : Mm) (o : Prop) : Unit × Mm × Prop := if (5 : Int32) ≤ l2 then ((), m, o) else (f_X12_runs_48 k24 l0 l2 (sI m (gR m l0 67) (ix l2) ((gI m (gR m l0 20) (ix l2)) - (gI m (gR m l0 64) (ix l2)))) ((((((o ∧ (gT m l0 = 12 ∧ gR m l0 67 ≠ 0)) ∧ (gT m l0 = 12 ∧ gR m l0 20 ≠ 0)) ∧ (gT m (gR m l0 20) = 20 ∧ vp_in l2 (gN m (gR m l0 20)))) ∧ (gT m l0 = 12 ∧ gR m l0 64 ≠ 0)) ∧ (gT m (gR m l0 64) = 20 ∧ vp_in l2 (gN m (gR m l0 64)))) ∧ (gT m (gR m l0 67) = 20 ∧ vp_in l2 (gN m (gR m l0 67)))))
set_option maxRecDepth 10000 in
theorem t_X12_runs_24b (l : Launch) (E : En) (c0 s0 : Nat) (k24 : Nat → Int32 → Mm → Prop → Unit × Mm × Prop) (hk24 : ∀ (l0 : Nat) (l2 : Int32) (m : Mm) (o : Prop), Mh wU l E mi_X12_runs c0 s0 24 [(0, .ref l0), (2, .int l2)] [] m o (k24 l0 l2 m o)) (l0 : Nat) (l2 : Int32) (m : Mm) (o : Prop) : Mh wU l E mi_X12_runs c0 s0 24 [(0, .ref l0), (2, .int l2)] [] m o (f_X12_runs_24b k24 l0 l2 m o) := by
  refine Mh_iload_n 1 rfl dX12_runs_24 ?_
  refine Mh_iconst (v := 5) dX12_runs_25 (by decide) ?_
  refine Mh_icmp_ge (tgt := 54) dX12_runs_26 (by decide) rfl (fun _ => ?_) (fun _ => ?_)
  · exact Mh_ret dX12_runs_54 rfl (fun _ => trivial) rfl
  · refine Mh_aload_n 0 rfl dX12_runs_29 ?_
    refine Mh_gR fd_11_67 fl_RX12_157 dX12_runs_30 ?_
    refine Mh_iload_n 1 rfl dX12_runs_33 ?_
    refine Mh_aload_n 0 rfl dX12_runs_34 ?_
    refine Mh_gR fd_11_20 fl_RX12_58 dX12_runs_35 ?_
    refine Mh_iload_n 1 rfl dX12_runs_38 ?_
    refine Mh_ial dX12_runs_39 ?_
    refine Mh_aload_n 0 rfl dX12_runs_40 ?_
    refine Mh_gR fd_11_64 fl_RX12_148 dX12_runs_41 ?_
    refine Mh_iload_n 1 rfl dX12_runs_44 ?_
    refine Mh_ial dX12_runs_45 ?_
    refine Mh_isub dX12_runs_46 ?_
    refine Mh_ias dX12_runs_47 ?_
    exact t_X12_runs_48 l E c0 s0 k24 hk24 _ _ _ _
def f_X12_runs_24 : Nat → Nat → Int32 → Mm → Prop → Unit × Mm × Prop
  | 0, _, _, m, _ => ((), m, False)
  | n + 1, l0, l2, m, o => f_X12_runs_24b (f_X12_runs_24 n) l0 l2 m o
theorem t_X12_runs_24 (l : Launch) (E : En) (c0 s0 : Nat) : ∀ (n : Nat) (l0 : Nat) (l2 : Int32) (m : Mm) (o : Prop), Mh wU l E mi_X12_runs c0 s0 24 [(0, .ref l0), (2, .int l2)] [] m o (f_X12_runs_24 n l0 l2 m o)
  | 0, _, _, _, _ => Mh_out rfl
  | n + 1, l0, l2, m, o => t_X12_runs_24b l E c0 s0 (f_X12_runs_24 n) (t_X12_runs_24 l E c0 s0 n) l0 l2 m o
def f_X12_runs_7b (k7 : Nat → Int32 → Int32 → Mm → Prop → Unit × Mm × Prop) (l0 : Nat) (l1 : Int32) (l2 : Int32) (m : Mm) (o : Prop) : Unit × Mm × Prop := if l1 ≤ l2 then (f_X12_runs_24 1000 l0 (0 : Int32) m o) else (bnd (F_X12_dayOne l0 m (o ∧ gT m l0 = 12)) (fun _ m1 o1 => f_X12_runs_16 k7 l0 l1 l2 m1 o1))
set_option maxRecDepth 10000 in
theorem t_X12_runs_7b (l : Launch) (E : En) (c0 s0 : Nat) (k7 : Nat → Int32 → Int32 → Mm → Prop → Unit × Mm × Prop) (hk7 : ∀ (l0 : Nat) (l1 : Int32) (l2 : Int32) (m : Mm) (o : Prop), Mh wU l E mi_X12_runs c0 s0 7 [(0, .ref l0), (1, .int l1), (2, .int l2)] [] m o (k7 l0 l1 l2 m o)) (l0 : Nat) (l1 : Int32) (l2 : Int32) (m : Mm) (o : Prop) : Mh wU l E mi_X12_runs c0 s0 7 [(0, .ref l0), (1, .int l1), (2, .int l2)] [] m o (f_X12_runs_7b k7 l0 l1 l2 m o) := by
  refine Mh_iload_n 2 rfl dX12_runs_7 ?_
  refine Mh_iload_n 1 rfl dX12_runs_8 ?_
  refine Mh_icmp_ge (tgt := 22) dX12_runs_9 (by decide) rfl (fun _ => ?_) (fun _ => ?_)
  · refine Mh_iconst (v := 0) dX12_runs_22 (by decide) ?_
    refine Mh_istore_n (lv' := [(2, .int (0 : Int32)), (0, .ref l0), (1, .int l1)]) dX12_runs_23 (Nat.le_of_ble_eq_true rfl) rfl ?_
    refine Mh_sub (lv' := [(0, .ref l0), (2, .int (0 : Int32))]) [1, 0] rfl ?_
    exact t_X12_runs_24 l E c0 s0 _ _ _ _ _
  · refine Mh_aload_n 0 rfl dX12_runs_12 ?_
    refine Mh_cvU (N := mi_X12_dayOne) (q := l0) (ci := 11) (as := []) (st := []) (id) cg_yX12_dayOne (by decide) rfl rfl ml_RX12_401 iv_yX12_dayOne pd_yX12_dayOne rfl (by decide) (Nat.le_of_ble_eq_true rfl) rfl dX12_runs_13 (T_X12_dayOne l E _ _ _) rfl ?_
    exact t_X12_runs_16 l E c0 s0 k7 hk7 _ _ _ _ _
def f_X12_runs_7 : Nat → Nat → Int32 → Int32 → Mm → Prop → Unit × Mm × Prop
  | 0, _, _, _, m, _ => ((), m, False)
  | n + 1, l0, l1, l2, m, o => f_X12_runs_7b (f_X12_runs_7 n) l0 l1 l2 m o
theorem t_X12_runs_7 (l : Launch) (E : En) (c0 s0 : Nat) : ∀ (n : Nat) (l0 : Nat) (l1 : Int32) (l2 : Int32) (m : Mm) (o : Prop), Mh wU l E mi_X12_runs c0 s0 7 [(0, .ref l0), (1, .int l1), (2, .int l2)] [] m o (f_X12_runs_7 n l0 l1 l2 m o)
  | 0, _, _, _, _, _ => Mh_out rfl
  | n + 1, l0, l1, l2, m, o => t_X12_runs_7b l E c0 s0 (f_X12_runs_7 n) (t_X12_runs_7 l E c0 s0 n) l0 l1 l2 m o
def f_X12_runs_5 (l0 : Nat) (l1 : Int32) (m : Mm) (o : Prop) : Unit × Mm × Prop := f_X12_runs_7 1000 l0 l1 (0 : Int32) m o
set_option maxRecDepth 10000 in
theorem t_X12_runs_5 (l : Launch) (E : En) (c0 s0 : Nat) (l0 : Nat) (l1 : Int32) (m : Mm) (o : Prop) : Mh wU l E mi_X12_runs c0 s0 5 [(0, .ref l0), (1, .int l1)] [] m o (f_X12_runs_5 l0 l1 m o) := by
  refine Mh_iconst (v := 0) dX12_runs_5 (by decide) ?_
  refine Mh_istore_n (lv' := [(2, .int (0 : Int32)), (0, .ref l0), (1, .int l1)]) dX12_runs_6 (Nat.le_of_ble_eq_true rfl) rfl ?_
  refine Mh_sub (lv' := [(0, .ref l0), (1, .int l1), (2, .int (0 : Int32))]) [1, 2, 0] rfl ?_
  exact t_X12_runs_7 l E c0 s0 _ _ _ _ _ _
def f_X12_runs_0 (l0 : Nat) (l1 : Int32) (m : Mm) (o : Prop) : Unit × Mm × Prop := f_X12_runs_5 l0 l1 (sI m l0 50 (0 : Int32)) (o ∧ gT m l0 = 12)
set_option maxRecDepth 10000 in
theorem t_X12_runs_0 (l : Launch) (E : En) (c0 s0 : Nat) (l0 : Nat) (l1 : Int32) (m : Mm) (o : Prop) : Mh wU l E mi_X12_runs c0 s0 0 [(0, .ref l0), (1, .int l1)] [] m o (f_X12_runs_0 l0 l1 m o) := by
  refine Mh_aload_n 0 rfl dX12_runs_0 ?_
  refine Mh_iconst (v := 0) dX12_runs_1 (by decide) ?_
  refine Mh_pI fd_11_50 ft_11 rfl fl_RX12_393 rfl dX12_runs_2 ?_
  exact t_X12_runs_5 l E c0 s0 _ _ _ _
def F_X12_runs (a0 : Nat) (a1 : Int32) (m : Mm) (o : Prop) : Unit × Mm × Prop := f_X12_runs_0 a0 a1 m o
theorem T_X12_runs (l : Launch) (E : En) (a0 : Nat) (a1 : Int32) (m : Mm) (o : Prop) : Mt wU l E yX12_runs mi_X12_runs [.ref a0, .int a1] m o (F_X12_runs a0 a1 m o) :=
  Mt_U (by decide) rfl (fun h => by cases h) rfl (Nat.le_of_ble_eq_true rfl) rfl (t_X12_runs_0 l E _ _ _ _ _ _)
