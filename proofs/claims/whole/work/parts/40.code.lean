def f_X12_setsAside_127 (k2 : Nat → Int32 → Int32 → Mm → Prop → Unit × Mm × Prop) (l0 : Nat) (l1 : Int32) (l2 : Int32) (m : Mm) (o : Prop) : Unit × Mm × Prop := k2 l0 l1 (l2 + 1) m o
set_option maxRecDepth 10000 in
theorem t_X12_setsAside_127 (l : Launch) (E : En) (c0 s0 : Nat) (k2 : Nat → Int32 → Int32 → Mm → Prop → Unit × Mm × Prop) (hk2 : ∀ (l0 : Nat) (l1 : Int32) (l2 : Int32) (m : Mm) (o : Prop), Mh wU l E mi_X12_setsAside c0 s0 2 [(0, .ref l0), (1, .int l1), (2, .int l2)] [] m o (k2 l0 l1 l2 m o)) (l0 : Nat) (l1 : Int32) (l2 : Int32) (m : Mm) (o : Prop) : Mh wU l E mi_X12_setsAside c0 s0 127 [(0, .ref l0), (1, .int l1), (2, .int l2)] [] m o (f_X12_setsAside_127 k2 l0 l1 l2 m o) := by
  refine Mh_iinc (v := l2 + 1) (lv' := [(2, .int (l2 + 1)), (0, .ref l0), (1, .int l1)]) 2 dX12_setsAside_127 rfl rfl (Nat.le_of_ble_eq_true rfl) rfl ?_
  refine Mh_goto (tgt := 2) dX12_setsAside_130 (by decide) ?_
  refine Mh_sub (lv' := [(0, .ref l0), (1, .int l1), (2, .int (l2 + 1))]) [1, 2, 0] rfl ?_
  exact hk2 _ _ _ _ _
def f_X12_setsAside_110 (k2 : Nat → Int32 → Int32 → Mm → Prop → Unit × Mm × Prop) (l0 : Nat) (l1 : Int32) (l2 : Int32) (m : Mm) (o : Prop) : Unit × Mm × Prop := f_X12_setsAside_127 k2 l0 l1 l2 (sI m (gR m l0 58) (ix (((12 : Int32) * l1) + l2)) ((gI m (gR m l0 14) (ix l2)) &&& 1)) ((((o ∧ (gT m l0 = 12 ∧ gR m l0 58 ≠ 0)) ∧ (gT m l0 = 12 ∧ gR m l0 14 ≠ 0)) ∧ (gT m (gR m l0 14) = 22 ∧ vp_in l2 (gN m (gR m l0 14)))) ∧ (gT m (gR m l0 58) = 22 ∧ vp_in (((12 : Int32) * l1) + l2) (gN m (gR m l0 58))))
set_option maxRecDepth 10000 in
theorem t_X12_setsAside_110 (l : Launch) (E : En) (c0 s0 : Nat) (k2 : Nat → Int32 → Int32 → Mm → Prop → Unit × Mm × Prop) (hk2 : ∀ (l0 : Nat) (l1 : Int32) (l2 : Int32) (m : Mm) (o : Prop), Mh wU l E mi_X12_setsAside c0 s0 2 [(0, .ref l0), (1, .int l1), (2, .int l2)] [] m o (k2 l0 l1 l2 m o)) (l0 : Nat) (l1 : Int32) (l2 : Int32) (m : Mm) (o : Prop) : Mh wU l E mi_X12_setsAside c0 s0 110 [(0, .ref l0), (1, .int l1), (2, .int l2)] [] m o (f_X12_setsAside_110 k2 l0 l1 l2 m o) := by
  refine Mh_aload_n 0 rfl dX12_setsAside_110 ?_
  refine Mh_gR fd_11_58 fl_RX12_130 dX12_setsAside_111 ?_
  refine Mh_bipush (v := 12) dX12_setsAside_114 (by decide) ?_
  refine Mh_iload_n 1 rfl dX12_setsAside_116 ?_
  refine Mh_imul dX12_setsAside_117 ?_
  refine Mh_iload_n 2 rfl dX12_setsAside_118 ?_
  refine Mh_iadd dX12_setsAside_119 ?_
  refine Mh_aload_n 0 rfl dX12_setsAside_120 ?_
  refine Mh_gR fd_11_14 fl_RX12_39 dX12_setsAside_121 ?_
  refine Mh_iload_n 2 rfl dX12_setsAside_124 ?_
  refine Mh_zal dX12_setsAside_125 ?_
  refine Mh_zas dX12_setsAside_126 ?_
  exact t_X12_setsAside_127 l E c0 s0 k2 hk2 _ _ _ _ _
def f_X12_setsAside_93 (k2 : Nat → Int32 → Int32 → Mm → Prop → Unit × Mm × Prop) (l0 : Nat) (l1 : Int32) (l2 : Int32) (m : Mm) (o : Prop) : Unit × Mm × Prop := f_X12_setsAside_110 k2 l0 l1 l2 (sI m (gR m l0 57) (ix (((12 : Int32) * l1) + l2)) (gI m (gR m l0 13) (ix l2))) ((((o ∧ (gT m l0 = 12 ∧ gR m l0 57 ≠ 0)) ∧ (gT m l0 = 12 ∧ gR m l0 13 ≠ 0)) ∧ (gT m (gR m l0 13) = 20 ∧ vp_in l2 (gN m (gR m l0 13)))) ∧ (gT m (gR m l0 57) = 20 ∧ vp_in (((12 : Int32) * l1) + l2) (gN m (gR m l0 57))))
set_option maxRecDepth 10000 in
theorem t_X12_setsAside_93 (l : Launch) (E : En) (c0 s0 : Nat) (k2 : Nat → Int32 → Int32 → Mm → Prop → Unit × Mm × Prop) (hk2 : ∀ (l0 : Nat) (l1 : Int32) (l2 : Int32) (m : Mm) (o : Prop), Mh wU l E mi_X12_setsAside c0 s0 2 [(0, .ref l0), (1, .int l1), (2, .int l2)] [] m o (k2 l0 l1 l2 m o)) (l0 : Nat) (l1 : Int32) (l2 : Int32) (m : Mm) (o : Prop) : Mh wU l E mi_X12_setsAside c0 s0 93 [(0, .ref l0), (1, .int l1), (2, .int l2)] [] m o (f_X12_setsAside_93 k2 l0 l1 l2 m o) := by
  refine Mh_aload_n 0 rfl dX12_setsAside_93 ?_
  refine Mh_gR fd_11_57 fl_RX12_127 dX12_setsAside_94 ?_
  refine Mh_bipush (v := 12) dX12_setsAside_97 (by decide) ?_
  refine Mh_iload_n 1 rfl dX12_setsAside_99 ?_
  refine Mh_imul dX12_setsAside_100 ?_
  refine Mh_iload_n 2 rfl dX12_setsAside_101 ?_
  refine Mh_iadd dX12_setsAside_102 ?_
  refine Mh_aload_n 0 rfl dX12_setsAside_103 ?_
  refine Mh_gR fd_11_13 fl_RX12_36 dX12_setsAside_104 ?_
  refine Mh_iload_n 2 rfl dX12_setsAside_107 ?_
  refine Mh_ial dX12_setsAside_108 ?_
  refine Mh_ias dX12_setsAside_109 ?_
  exact t_X12_setsAside_110 l E c0 s0 k2 hk2 _ _ _ _ _
def f_X12_setsAside_76 (k2 : Nat → Int32 → Int32 → Mm → Prop → Unit × Mm × Prop) (l0 : Nat) (l1 : Int32) (l2 : Int32) (m : Mm) (o : Prop) : Unit × Mm × Prop := f_X12_setsAside_93 k2 l0 l1 l2 (sI m (gR m l0 56) (ix (((12 : Int32) * l1) + l2)) (gI m (gR m l0 12) (ix l2))) ((((o ∧ (gT m l0 = 12 ∧ gR m l0 56 ≠ 0)) ∧ (gT m l0 = 12 ∧ gR m l0 12 ≠ 0)) ∧ (gT m (gR m l0 12) = 20 ∧ vp_in l2 (gN m (gR m l0 12)))) ∧ (gT m (gR m l0 56) = 20 ∧ vp_in (((12 : Int32) * l1) + l2) (gN m (gR m l0 56))))
set_option maxRecDepth 10000 in
theorem t_X12_setsAside_76 (l : Launch) (E : En) (c0 s0 : Nat) (k2 : Nat → Int32 → Int32 → Mm → Prop → Unit × Mm × Prop) (hk2 : ∀ (l0 : Nat) (l1 : Int32) (l2 : Int32) (m : Mm) (o : Prop), Mh wU l E mi_X12_setsAside c0 s0 2 [(0, .ref l0), (1, .int l1), (2, .int l2)] [] m o (k2 l0 l1 l2 m o)) (l0 : Nat) (l1 : Int32) (l2 : Int32) (m : Mm) (o : Prop) : Mh wU l E mi_X12_setsAside c0 s0 76 [(0, .ref l0), (1, .int l1), (2, .int l2)] [] m o (f_X12_setsAside_76 k2 l0 l1 l2 m o) := by
  refine Mh_aload_n 0 rfl dX12_setsAside_76 ?_
  refine Mh_gR fd_11_56 fl_RX12_124 dX12_setsAside_77 ?_
  refine Mh_bipush (v := 12) dX12_setsAside_80 (by decide) ?_
  refine Mh_iload_n 1 rfl dX12_setsAside_82 ?_
  refine Mh_imul dX12_setsAside_83 ?_
  refine Mh_iload_n 2 rfl dX12_setsAside_84 ?_
  refine Mh_iadd dX12_setsAside_85 ?_
  refine Mh_aload_n 0 rfl dX12_setsAside_86 ?_
  refine Mh_gR fd_11_12 fl_RX12_33 dX12_setsAside_87 ?_
  refine Mh_iload_n 2 rfl dX12_setsAside_90 ?_
  refine Mh_ial dX12_setsAside_91 ?_
  refine Mh_ias dX12_setsAside_92 ?_
  exact t_X12_setsAside_93 l E c0 s0 k2 hk2 _ _ _ _ _
def f_X12_setsAside_59 (k2 : Nat → Int32 → Int32 → Mm → Prop → Unit × Mm × Prop) (l0 : Nat) (l1 : Int32) (l2 : Int32) (m : Mm) (o : Prop) : Unit × Mm × Prop := f_X12_setsAside_76 k2 l0 l1 l2 (sI m (gR m l0 55) (ix (((12 : Int32) * l1) + l2)) (gI m (gR m l0 11) (ix l2))) ((((o ∧ (gT m l0 = 12 ∧ gR m l0 55 ≠ 0)) ∧ (gT m l0 = 12 ∧ gR m l0 11 ≠ 0)) ∧ (gT m (gR m l0 11) = 20 ∧ vp_in l2 (gN m (gR m l0 11)))) ∧ (gT m (gR m l0 55) = 20 ∧ vp_in (((12 : Int32) * l1) + l2) (gN m (gR m l0 55))))
set_option maxRecDepth 10000 in
theorem t_X12_setsAside_59 (l : Launch) (E : En) (c0 s0 : Nat) (k2 : Nat → Int32 → Int32 → Mm → Prop → Unit × Mm × Prop) (hk2 : ∀ (l0 : Nat) (l1 : Int32) (l2 : Int32) (m : Mm) (o : Prop), Mh wU l E mi_X12_setsAside c0 s0 2 [(0, .ref l0), (1, .int l1), (2, .int l2)] [] m o (k2 l0 l1 l2 m o)) (l0 : Nat) (l1 : Int32) (l2 : Int32) (m : Mm) (o : Prop) : Mh wU l E mi_X12_setsAside c0 s0 59 [(0, .ref l0), (1, .int l1), (2, .int l2)] [] m o (f_X12_setsAside_59 k2 l0 l1 l2 m o) := by
  refine Mh_aload_n 0 rfl dX12_setsAside_59 ?_
  refine Mh_gR fd_11_55 fl_RX12_121 dX12_setsAside_60 ?_
  refine Mh_bipush (v := 12) dX12_setsAside_63 (by decide) ?_
  refine Mh_iload_n 1 rfl dX12_setsAside_65 ?_
  refine Mh_imul dX12_setsAside_66 ?_
  refine Mh_iload_n 2 rfl dX12_setsAside_67 ?_
  refine Mh_iadd dX12_setsAside_68 ?_
  refine Mh_aload_n 0 rfl dX12_setsAside_69 ?_
  refine Mh_gR fd_11_11 fl_RX12_30 dX12_setsAside_70 ?_
  refine Mh_iload_n 2 rfl dX12_setsAside_73 ?_
  refine Mh_ial dX12_setsAside_74 ?_
  refine Mh_ias dX12_setsAside_75 ?_
  exact t_X12_setsAside_76 l E c0 s0 k2 hk2 _ _ _ _ _
def f_X12_setsAside_42 (k2 : Nat → Int32 → Int32 → Mm → Prop → Unit × Mm × Prop) (l0 : Nat) (l1 : Int32) (l2 : Int32) (m : Mm) (o : Prop) : Unit × Mm × Prop := f_X12_setsAside_59 k2 l0 l1 l2 (sI m (gR m l0 54) (ix (((12 : Int32) * l1) + l2)) (gI m (gR m l0 10) (ix l2))) ((((o ∧ (gT m l0 = 12 ∧ gR m l0 54 ≠ 0)) ∧ (gT m l0 = 12 ∧ gR m l0 10 ≠ 0)) ∧ (gT m (gR m l0 10) = 20 ∧ vp_in l2 (gN m (gR m l0 10)))) ∧ (gT m (gR m l0 54) = 20 ∧ vp_in (((12 : Int32) * l1) + l2) (gN m (gR m l0 54))))
set_option maxRecDepth 10000 in
theorem t_X12_setsAside_42 (l : Launch) (E : En) (c0 s0 : Nat) (k2 : Nat → Int32 → Int32 → Mm → Prop → Unit × Mm × Prop) (hk2 : ∀ (l0 : Nat) (l1 : Int32) (l2 : Int32) (m : Mm) (o : Prop), Mh wU l E mi_X12_setsAside c0 s0 2 [(0, .ref l0), (1, .int l1), (2, .int l2)] [] m o (k2 l0 l1 l2 m o)) (l0 : Nat) (l1 : Int32) (l2 : Int32) (m : Mm) (o : Prop) : Mh wU l E mi_X12_setsAside c0 s0 42 [(0, .ref l0), (1, .int l1), (2, .int l2)] [] m o (f_X12_setsAside_42 k2 l0 l1 l2 m o) := by
  refine Mh_aload_n 0 rfl dX12_setsAside_42 ?_
  refine Mh_gR fd_11_54 fl_RX12_118 dX12_setsAside_43 ?_
  refine Mh_bipush (v := 12) dX12_setsAside_46 (by decide) ?_
  refine Mh_iload_n 1 rfl dX12_setsAside_48 ?_
  refine Mh_imul dX12_setsAside_49 ?_
  refine Mh_iload_n 2 rfl dX12_setsAside_50 ?_
  refine Mh_iadd dX12_setsAside_51 ?_
  refine Mh_aload_n 0 rfl dX12_setsAside_52 ?_
  refine Mh_gR fd_11_10 fl_RX12_27 dX12_setsAside_53 ?_
  refine Mh_iload_n 2 rfl dX12_setsAside_56 ?_
  refine Mh_ial dX12_setsAside_57 ?_
  refine Mh_ias dX12_setsAside_58 ?_
  exact t_X12_setsAside_59 l E c0 s0 k2 hk2 _ _ _ _ _
def f_X12_setsAside_25 (k2 : Nat → Int32 → Int32 → Mm → Prop → Unit × Mm × Prop) (l0 : Nat) (l1 : Int32) (l2 : Int32) (m : Mm) (o : Prop) : Unit × Mm × Prop := f_X12_setsAside_42 k2 l0 l1 l2 (sI m (gR m l0 53) (ix (((12 : Int32) * l1) + l2)) (gI m (gR m l0 9) (ix l2))) ((((o ∧ (gT m l0 = 12 ∧ gR m l0 53 ≠ 0)) ∧ (gT m l0 = 12 ∧ gR m l0 9 ≠ 0)) ∧ (gT m (gR m l0 9) = 20 ∧ vp_in l2 (gN m (gR m l0 9)))) ∧ (gT m (gR m l0 53) = 20 ∧ vp_in (((12 : Int32) * l1) + l2) (gN m (gR m l0 53))))
set_option maxRecDepth 10000 in
theorem t_X12_setsAside_25 (l : Launch) (E : En) (c0 s0 : Nat) (k2 : Nat → Int32 → Int32 → Mm → Prop → Unit × Mm × Prop) (hk2 : ∀ (l0 : Nat) (l1 : Int32) (l2 : Int32) (m : Mm) (o : Prop), Mh wU l E mi_X12_setsAside c0 s0 2 [(0, .ref l0), (1, .int l1), (2, .int l2)] [] m o (k2 l0 l1 l2 m o)) (l0 : Nat) (l1 : Int32) (l2 : Int32) (m : Mm) (o : Prop) : Mh wU l E mi_X12_setsAside c0 s0 25 [(0, .ref l0), (1, .int l1), (2, .int l2)] [] m o (f_X12_setsAside_25 k2 l0 l1 l2 m o) := by
  refine Mh_aload_n 0 rfl dX12_setsAside_25 ?_
  refine Mh_gR fd_11_53 fl_RX12_115 dX12_setsAside_26 ?_
  refine Mh_bipush (v := 12) dX12_setsAside_29 (by decide) ?_
  refine Mh_iload_n 1 rfl dX12_setsAside_31 ?_
  refine Mh_imul dX12_setsAside_32 ?_
  refine Mh_iload_n 2 rfl dX12_setsAside_33 ?_
  refine Mh_iadd dX12_setsAside_34 ?_
  refine Mh_aload_n 0 rfl dX12_setsAside_35 ?_
  refine Mh_gR fd_11_9 fl_RX12_24 dX12_setsAside_36 ?_
  refine Mh_iload_n 2 rfl dX12_setsAside_39 ?_
  refine Mh_ial dX12_setsAside_40 ?_
  refine Mh_ias dX12_setsAside_41 ?_
  exact t_X12_setsAside_42 l E c0 s0 k2 hk2 _ _ _ _ _
def f_X12_setsAside_209 (k135 : Nat → Int32 → Int32 → Mm → Prop → Unit × Mm × Prop) (l0 : Nat) (l1 : Int32) (l2 : Int32) (m : Mm) (o : Prop) : Unit × Mm × Prop := k135 l0 l1 (l2 + 1) m o
set_option maxRecDepth 10000 in
theorem t_X12_setsAside_209 (l : Launch) (E : En) (c0 s0 : Nat) (k135 : Nat → Int32 → Int32 → Mm → Prop → Unit × Mm × Prop) (hk135 : ∀ (l0 : Nat) (l1 : Int32) (l2 : Int32) (m : Mm) (o : Prop), Mh wU l E mi_X12_setsAside c0 s0 135 [(0, .ref l0), (1, .int l1), (2, .int l2)] [] m o (k135 l0 l1 l2 m o)) (l0 : Nat) (l1 : Int32) (l2 : Int32) (m : Mm) (o : Prop) : Mh wU l E mi_X12_setsAside c0 s0 209 [(0, .ref l0), (1, .int l1), (2, .int l2)] [] m o (f_X12_setsAside_209 k135 l0 l1 l2 m o) := by
  refine Mh_iinc (v := l2 + 1) (lv' := [(2, .int (l2 + 1)), (0, .ref l0), (1, .int l1)]) 2 dX12_setsAside_209 rfl rfl (Nat.le_of_ble_eq_true rfl) rfl ?_
  refine Mh_goto (tgt := 135) dX12_setsAside_212 (by decide) ?_
  refine Mh_sub (lv' := [(0, .ref l0), (1, .int l1), (2, .int (l2 + 1))]) [1, 2, 0] rfl ?_
  exact hk135 _ _ _ _ _
def f_X12_setsAside_192 (k135 : Nat → Int32 → Int32 → Mm → Prop → Unit × Mm × Prop) (l0 : Nat) (l1 : Int32) (l2 : Int32) (m : Mm) (o : Prop) : Unit × Mm × Prop := f_X12_setsAside_209 k135 l0 l1 l2 (sI m (gR m l0 62) (ix (((16 : Int32) * l1) + l2)) (gI m (gR m l0 18) (ix l2))) ((((o ∧ (gT m l0 = 12 ∧ gR m l0 62 ≠ 0)) ∧ (gT m l0 = 12 ∧ gR m l0 18 ≠ 0)) ∧ (gT m (gR m l0 18) = 20 ∧ vp_in l2 (gN m (gR m l0 18)))) ∧ (gT m (gR m l0 62) = 20 ∧ vp_in (((16 : Int32) * l1) + l2) (gN m (gR m l0 62))))
set_option maxRecDepth 10000 in
theorem t_X12_setsAside_192 (l : Launch) (E : En) (c0 s0 : Nat) (k135 : Nat → Int32 → Int32 → Mm → Prop → Unit × Mm × Prop) (hk135 : ∀ (l0 : Nat) (l1 : Int32) (l2 : Int32) (m : Mm) (o : Prop), Mh wU l E mi_X12_setsAside c0 s0 135 [(0, .ref l0), (1, .int l1), (2, .int l2)] [] m o (k135 l0 l1 l2 m o)) (l0 : Nat) (l1 : Int32) (l2 : Int32) (m : Mm) (o : Prop) : Mh wU l E mi_X12_setsAside c0 s0 192 [(0, .ref l0), (1, .int l1), (2, .int l2)] [] m o (f_X12_setsAside_192 k135 l0 l1 l2 m o) := by
  refine Mh_aload_n 0 rfl dX12_setsAside_192 ?_
  refine Mh_gR fd_11_62 fl_RX12_142 dX12_setsAside_193 ?_
  refine Mh_bipush (v := 16) dX12_setsAside_196 (by decide) ?_
  refine Mh_iload_n 1 rfl dX12_setsAside_198 ?_
  refine Mh_imul dX12_setsAside_199 ?_
  refine Mh_iload_n 2 rfl dX12_setsAside_200 ?_
  refine Mh_iadd dX12_setsAside_201 ?_
  refine Mh_aload_n 0 rfl dX12_setsAside_202 ?_
  refine Mh_gR fd_11_18 fl_RX12_52 dX12_setsAside_203 ?_
  refine Mh_iload_n 2 rfl dX12_setsAside_206 ?_
  refine Mh_ial dX12_setsAside_207 ?_
  refine Mh_ias dX12_setsAside_208 ?_
  exact t_X12_setsAside_209 l E c0 s0 k135 hk135 _ _ _ _ _
def f_X12_setsAside_175 (k135 : Nat → Int32 → Int32 → Mm → Prop → Unit × Mm × Prop) (l0 : Nat) (l1 : Int32) (l2 : Int32) (m : Mm) (o : Prop) : Unit × Mm × Prop := f_X12_setsAside_192 k135 l0 l1 l2 (sI m (gR m l0 61) (ix (((16 : Int32) * l1) + l2)) (gI m (gR m l0 17) (ix l2))) ((((o ∧ (gT m l0 = 12 ∧ gR m l0 61 ≠ 0)) ∧ (gT m l0 = 12 ∧ gR m l0 17 ≠ 0)) ∧ (gT m (gR m l0 17) = 20 ∧ vp_in l2 (gN m (gR m l0 17)))) ∧ (gT m (gR m l0 61) = 20 ∧ vp_in (((16 : Int32) * l1) + l2) (gN m (gR m l0 61))))
set_option maxRecDepth 10000 in
theorem t_X12_setsAside_175 (l : Launch) (E : En) (c0 s0 : Nat) (k135 : Nat → Int32 → Int32 → Mm → Prop → Unit × Mm × Prop) (hk135 : ∀ (l0 : Nat) (l1 : Int32) (l2 : Int32) (m : Mm) (o : Prop), Mh wU l E mi_X12_setsAside c0 s0 135 [(0, .ref l0), (1, .int l1), (2, .int l2)] [] m o (k135 l0 l1 l2 m o)) (l0 : Nat) (l1 : Int32) (l2 : Int32) (m : Mm) (o : Prop) : Mh wU l E mi_X12_setsAside c0 s0 175 [(0, .ref l0), (1, .int l1), (2, .int l2)] [] m o (f_X12_setsAside_175 k135 l0 l1 l2 m o) := by
  refine Mh_aload_n 0 rfl dX12_setsAside_175 ?_
  refine Mh_gR fd_11_61 fl_RX12_139 dX12_setsAside_176 ?_
  refine Mh_bipush (v := 16) dX12_setsAside_179 (by decide) ?_
  refine Mh_iload_n 1 rfl dX12_setsAside_181 ?_
  refine Mh_imul dX12_setsAside_182 ?_
  refine Mh_iload_n 2 rfl dX12_setsAside_183 ?_
  refine Mh_iadd dX12_setsAside_184 ?_
  refine Mh_aload_n 0 rfl dX12_setsAside_185 ?_
  refine Mh_gR fd_11_17 fl_RX12_49 dX12_setsAside_186 ?_
  refine Mh_iload_n 2 rfl dX12_setsAside_189 ?_
  refine Mh_ial dX12_setsAside_190 ?_
  refine Mh_ias dX12_setsAside_191 ?_
  exact t_X12_setsAside_192 l E c0 s0 k135 hk135 _ _ _ _ _
def f_X12_setsAside_158 (k135 : Nat → Int32 → Int32 → Mm → Prop → Unit × Mm × Prop) (l0 : Nat) (l1 : Int32) (l2 : Int32) (m : Mm) (o : Prop) : Unit × Mm × Prop := f_X12_setsAside_175 k135 l0 l1 l2 (sI m (gR m l0 60) (ix (((16 : Int32) * l1) + l2)) (gI m (gR m l0 16) (ix l2))) ((((o ∧ (gT m l0 = 12 ∧ gR m l0 60 ≠ 0)) ∧ (gT m l0 = 12 ∧ gR m l0 16 ≠ 0)) ∧ (gT m (gR m l0 16) = 20 ∧ vp_in l2 (gN m (gR m l0 16)))) ∧ (gT m (gR m l0 60) = 20 ∧ vp_in (((16 : Int32) * l1) + l2) (gN m (gR m l0 60))))
set_option maxRecDepth 10000 in
theorem t_X12_setsAside_158 (l : Launch) (E : En) (c0 s0 : Nat) (k135 : Nat → Int32 → Int32 → Mm → Prop → Unit × Mm × Prop) (hk135 : ∀ (l0 : Nat) (l1 : Int32) (l2 : Int32) (m : Mm) (o : Prop), Mh wU l E mi_X12_setsAside c0 s0 135 [(0, .ref l0), (1, .int l1), (2, .int l2)] [] m o (k135 l0 l1 l2 m o)) (l0 : Nat) (l1 : Int32) (l2 : Int32) (m : Mm) (o : Prop) : Mh wU l E mi_X12_setsAside c0 s0 158 [(0, .ref l0), (1, .int l1), (2, .int l2)] [] m o (f_X12_setsAside_158 k135 l0 l1 l2 m o) := by
  refine Mh_aload_n 0 rfl dX12_setsAside_158 ?_
  refine Mh_gR fd_11_60 fl_RX12_136 dX12_setsAside_159 ?_
  refine Mh_bipush (v := 16) dX12_setsAside_162 (by decide) ?_
  refine Mh_iload_n 1 rfl dX12_setsAside_164 ?_
  refine Mh_imul dX12_setsAside_165 ?_
  refine Mh_iload_n 2 rfl dX12_setsAside_166 ?_
  refine Mh_iadd dX12_setsAside_167 ?_
  refine Mh_aload_n 0 rfl dX12_setsAside_168 ?_
  refine Mh_gR fd_11_16 fl_RX12_46 dX12_setsAside_169 ?_
  refine Mh_iload_n 2 rfl dX12_setsAside_172 ?_
  refine Mh_ial dX12_setsAside_173 ?_
  refine Mh_ias dX12_setsAside_174 ?_
  exact t_X12_setsAside_175 l E c0 s0 k135 hk135 _ _ _ _ _
def f_X12_setsAside_240 (k217 : Nat → Int32 → Int32 → Mm → Prop → Unit × Mm × Prop) (l0 : Nat) (l1 : Int32) (l2 : Int32) (m : Mm) (o : Prop) : Unit × Mm × Prop := k217 l0 l1 (l2 + 1) m o
set_option maxRecDepth 10000 in
theorem t_X12_setsAside_240 (l : Launch) (E : En) (c0 s0 : Nat) (k217 : Nat → Int32 → Int32 → Mm → Prop → Unit × Mm × Prop) (hk217 : ∀ (l0 : Nat) (l1 : Int32) (l2 : Int32) (m : Mm) (o : Prop), Mh wU l E mi_X12_setsAside c0 s0 217 [(0, .ref l0), (1, .int l1), (2, .int l2)] [] m o (k217 l0 l1 l2 m o)) (l0 : Nat) (l1 : Int32) (l2 : Int32) (m : Mm) (o : Prop) : Mh wU l E mi_X12_setsAside c0 s0 240 [(0, .ref l0), (1, .int l1), (2, .int l2)] [] m o (f_X12_setsAside_240 k217 l0 l1 l2 m o) := by
  refine Mh_iinc (v := l2 + 1) (lv' := [(2, .int (l2 + 1)), (0, .ref l0), (1, .int l1)]) 2 dX12_setsAside_240 rfl rfl (Nat.le_of_ble_eq_true rfl) rfl ?_
  refine Mh_goto (tgt := 217) dX12_setsAside_243 (by decide) ?_
  refine Mh_sub (lv' := [(0, .ref l0), (1, .int l1), (2, .int (l2 + 1))]) [1, 2, 0] rfl ?_
  exact hk217 _ _ _ _ _
def f_X12_setsAside_269 (k248 : Nat → Int32 → Int32 → Mm → Prop → Unit × Mm × Prop) (l0 : Nat) (l1 : Int32) (l2 : Int32) (m : Mm) (o : Prop) : Unit × Mm × Prop := k248 l0 l1 (l2 + 1) m o
set_option maxRecDepth 10000 in
theorem t_X12_setsAside_269 (l : Launch) (E : En) (c0 s0 : Nat) (k248 : Nat → Int32 → Int32 → Mm → Prop → Unit × Mm × Prop) (hk248 : ∀ (l0 : Nat) (l1 : Int32) (l2 : Int32) (m : Mm) (o : Prop), Mh wU l E mi_X12_setsAside c0 s0 248 [(0, .ref l0), (1, .int l1), (2, .int l2)] [] m o (k248 l0 l1 l2 m o)) (l0 : Nat) (l1 : Int32) (l2 : Int32) (m : Mm) (o : Prop) : Mh wU l E mi_X12_setsAside c0 s0 269 [(0, .ref l0), (1, .int l1), (2, .int l2)] [] m o (f_X12_setsAside_269 k248 l0 l1 l2 m o) := by
  refine Mh_iinc (v := l2 + 1) (lv' := [(2, .int (l2 + 1)), (0, .ref l0), (1, .int l1)]) 2 dX12_setsAside_269 rfl rfl (Nat.le_of_ble_eq_true rfl) rfl ?_
  refine Mh_goto (tgt := 248) dX12_setsAside_272 (by decide) ?_
  refine Mh_sub (lv' := [(0, .ref l0), (1, .int l1), (2, .int (l2 + 1))]) [1, 2, 0] rfl ?_
  exact hk248 _ _ _ _ _
def f_X12_setsAside_302 (k277 : Nat → Int32 → Int32 → Mm → Prop → Unit × Mm × Prop) (l0 : Nat) (l1 : Int32) (l2 : Int32) (m : Mm) (o : Prop) : Unit × Mm × Prop := k277 l0 l1 (l2 + 1) m o
set_option maxRecDepth 10000 in
theorem t_X12_setsAside_302 (l : Launch) (E : En) (c0 s0 : Nat) (k277 : Nat → Int32 → Int32 → Mm → Prop → Unit × Mm × Prop) (hk277 : ∀ (l0 : Nat) (l1 : Int32) (l2 : Int32) (m : Mm) (o : Prop), Mh wU l E mi_X12_setsAside c0 s0 277 [(0, .ref l0), (1, .int l1), (2, .int l2)] [] m o (k277 l0 l1 l2 m o)) (l0 : Nat) (l1 : Int32) (l2 : Int32) (m : Mm) (o : Prop) : Mh wU l E mi_X12_setsAside c0 s0 302 [(0, .ref l0), (1, .int l1), (2, .int l2)] [] m o (f_X12_setsAside_302 k277 l0 l1 l2 m o) := by
  refine Mh_iinc (v := l2 + 1) (lv' := [(2, .int (l2 + 1)), (0, .ref l0), (1, .int l1)]) 2 dX12_setsAside_302 rfl rfl (Nat.le_of_ble_eq_true rfl) rfl ?_
  refine Mh_goto (tgt := 277) dX12_setsAside_305 (by decide) ?_
  refine Mh_sub (lv' := [(0, .ref l0), (1, .int l1), (2, .int (l2 + 1))]) [1, 2, 0] rfl ?_
  exact hk277 _ _ _ _ _
def f_X12_setsAside_396 (m : Mm) (o : Prop) : Unit × Mm × Prop := ((), m, o)
set_option maxRecDepth 10000 in
theorem t_X12_setsAside_396 (l : Launch) (E : En) (c0 s0 : Nat) (m : Mm) (o : Prop) : Mh wU l E mi_X12_setsAside c0 s0 396 [] [] m o (f_X12_setsAside_396  m o) := by
  exact Mh_ret dX12_setsAside_396 rfl (fun _ => trivial) rfl
def f_X12_setsAside_381 (l0 : Nat) (l1 : Int32) (m : Mm) (o : Prop) : Unit × Mm × Prop := f_X12_setsAside_396  (sI m (gR m l0 66) (ix (((6 : Int32) * l1) + (5 : Int32))) (gI m l0 5)) (((o ∧ (gT m l0 = 12 ∧ gR m l0 66 ≠ 0)) ∧ gT m l0 = 12) ∧ (gT m (gR m l0 66) = 20 ∧ vp_in (((6 : Int32) * l1) + (5 : Int32)) (gN m (gR m l0 66))))
set_option maxRecDepth 10000 in
theorem t_X12_setsAside_381 (l : Launch) (E : En) (c0 s0 : Nat) (l0 : Nat) (l1 : Int32) (m : Mm) (o : Prop) : Mh wU l E mi_X12_setsAside c0 s0 381 [(0, .ref l0), (1, .int l1)] [] m o (f_X12_setsAside_381 l0 l1 m o) := by
  refine Mh_aload_n 0 rfl dX12_setsAside_381 ?_
  refine Mh_gR fd_11_66 fl_RX12_154 dX12_setsAside_382 ?_
  refine Mh_bipush (v := 6) dX12_setsAside_385 (by decide) ?_
  refine Mh_iload_n 1 rfl dX12_setsAside_387 ?_
  refine Mh_imul dX12_setsAside_388 ?_
  refine Mh_iconst (v := 5) dX12_setsAside_389 (by decide) ?_
  refine Mh_iadd dX12_setsAside_390 ?_
  refine Mh_aload_n 0 rfl dX12_setsAside_391 ?_
  refine Mh_gI fd_11_5 fl_RX12_13 dX12_setsAside_392 ?_
  refine Mh_ias dX12_setsAside_395 ?_
  refine Mh_sub (lv' := []) [] rfl ?_
  exact t_X12_setsAside_396 l E c0 s0  _ _
def f_X12_setsAside_366 (l0 : Nat) (l1 : Int32) (m : Mm) (o : Prop) : Unit × Mm × Prop := f_X12_setsAside_381 l0 l1 (sI m (gR m l0 66) (ix (((6 : Int32) * l1) + (4 : Int32))) (gI m l0 7)) (((o ∧ (gT m l0 = 12 ∧ gR m l0 66 ≠ 0)) ∧ gT m l0 = 12) ∧ (gT m (gR m l0 66) = 20 ∧ vp_in (((6 : Int32) * l1) + (4 : Int32)) (gN m (gR m l0 66))))
set_option maxRecDepth 10000 in
theorem t_X12_setsAside_366 (l : Launch) (E : En) (c0 s0 : Nat) (l0 : Nat) (l1 : Int32) (m : Mm) (o : Prop) : Mh wU l E mi_X12_setsAside c0 s0 366 [(0, .ref l0), (1, .int l1)] [] m o (f_X12_setsAside_366 l0 l1 m o) := by
  refine Mh_aload_n 0 rfl dX12_setsAside_366 ?_
  refine Mh_gR fd_11_66 fl_RX12_154 dX12_setsAside_367 ?_
  refine Mh_bipush (v := 6) dX12_setsAside_370 (by decide) ?_
  refine Mh_iload_n 1 rfl dX12_setsAside_372 ?_
  refine Mh_imul dX12_setsAside_373 ?_
  refine Mh_iconst (v := 4) dX12_setsAside_374 (by decide) ?_
  refine Mh_iadd dX12_setsAside_375 ?_
  refine Mh_aload_n 0 rfl dX12_setsAside_376 ?_
  refine Mh_gI fd_11_7 fl_RX12_225 dX12_setsAside_377 ?_
  refine Mh_ias dX12_setsAside_380 ?_
  exact t_X12_setsAside_381 l E c0 s0 _ _ _ _
def f_X12_setsAside_351 (l0 : Nat) (l1 : Int32) (m : Mm) (o : Prop) : Unit × Mm × Prop := f_X12_setsAside_366 l0 l1 (sI m (gR m l0 66) (ix (((6 : Int32) * l1) + (3 : Int32))) (gI m l0 6)) (((o ∧ (gT m l0 = 12 ∧ gR m l0 66 ≠ 0)) ∧ gT m l0 = 12) ∧ (gT m (gR m l0 66) = 20 ∧ vp_in (((6 : Int32) * l1) + (3 : Int32)) (gN m (gR m l0 66))))
set_option maxRecDepth 10000 in
theorem t_X12_setsAside_351 (l : Launch) (E : En) (c0 s0 : Nat) (l0 : Nat) (l1 : Int32) (m : Mm) (o : Prop) : Mh wU l E mi_X12_setsAside c0 s0 351 [(0, .ref l0), (1, .int l1)] [] m o (f_X12_setsAside_351 l0 l1 m o) := by
  refine Mh_aload_n 0 rfl dX12_setsAside_351 ?_
  refine Mh_gR fd_11_66 fl_RX12_154 dX12_setsAside_352 ?_
  refine Mh_bipush (v := 6) dX12_setsAside_355 (by decide) ?_
  refine Mh_iload_n 1 rfl dX12_setsAside_357 ?_
  refine Mh_imul dX12_setsAside_358 ?_
  refine Mh_iconst (v := 3) dX12_setsAside_359 (by decide) ?_
  refine Mh_iadd dX12_setsAside_360 ?_
  refine Mh_aload_n 0 rfl dX12_setsAside_361 ?_
  refine Mh_gI fd_11_6 fl_RX12_17 dX12_setsAside_362 ?_
  refine Mh_ias dX12_setsAside_365 ?_
  exact t_X12_setsAside_366 l E c0 s0 _ _ _ _
def f_X12_setsAside_336 (l0 : Nat) (l1 : Int32) (m : Mm) (o : Prop) : Unit × Mm × Prop := f_X12_setsAside_351 l0 l1 (sI m (gR m l0 66) (ix (((6 : Int32) * l1) + (2 : Int32))) (gI m l0 4)) (((o ∧ (gT m l0 = 12 ∧ gR m l0 66 ≠ 0)) ∧ gT m l0 = 12) ∧ (gT m (gR m l0 66) = 20 ∧ vp_in (((6 : Int32) * l1) + (2 : Int32)) (gN m (gR m l0 66))))
set_option maxRecDepth 10000 in
theorem t_X12_setsAside_336 (l : Launch) (E : En) (c0 s0 : Nat) (l0 : Nat) (l1 : Int32) (m : Mm) (o : Prop) : Mh wU l E mi_X12_setsAside c0 s0 336 [(0, .ref l0), (1, .int l1)] [] m o (f_X12_setsAside_336 l0 l1 m o) := by
  refine Mh_aload_n 0 rfl dX12_setsAside_336 ?_
  refine Mh_gR fd_11_66 fl_RX12_154 dX12_setsAside_337 ?_
  refine Mh_bipush (v := 6) dX12_setsAside_340 (by decide) ?_
  refine Mh_iload_n 1 rfl dX12_setsAside_342 ?_
  refine Mh_imul dX12_setsAside_343 ?_
  refine Mh_iconst (v := 2) dX12_setsAside_344 (by decide) ?_
  refine Mh_iadd dX12_setsAside_345 ?_
  refine Mh_aload_n 0 rfl dX12_setsAside_346 ?_
  refine Mh_gI fd_11_4 fl_RX12_359 dX12_setsAside_347 ?_
  refine Mh_ias dX12_setsAside_350 ?_
  exact t_X12_setsAside_351 l E c0 s0 _ _ _ _
def f_X12_setsAside_321 (l0 : Nat) (l1 : Int32) (m : Mm) (o : Prop) : Unit × Mm × Prop := f_X12_setsAside_336 l0 l1 (sI m (gR m l0 66) (ix (((6 : Int32) * l1) + (1 : Int32))) (gI m l0 3)) (((o ∧ (gT m l0 = 12 ∧ gR m l0 66 ≠ 0)) ∧ gT m l0 = 12) ∧ (gT m (gR m l0 66) = 20 ∧ vp_in (((6 : Int32) * l1) + (1 : Int32)) (gN m (gR m l0 66))))
set_option maxRecDepth 10000 in
theorem t_X12_setsAside_321 (l : Launch) (E : En) (c0 s0 : Nat) (l0 : Nat) (l1 : Int32) (m : Mm) (o : Prop) : Mh wU l E mi_X12_setsAside c0 s0 321 [(0, .ref l0), (1, .int l1)] [] m o (f_X12_setsAside_321 l0 l1 m o) := by
  refine Mh_aload_n 0 rfl dX12_setsAside_321 ?_
  refine Mh_gR fd_11_66 fl_RX12_154 dX12_setsAside_322 ?_
  refine Mh_bipush (v := 6) dX12_setsAside_325 (by decide) ?_
  refine Mh_iload_n 1 rfl dX12_setsAside_327 ?_
  refine Mh_imul dX12_setsAside_328 ?_
  refine Mh_iconst (v := 1) dX12_setsAside_329 (by decide) ?_
  refine Mh_iadd dX12_setsAside_330 ?_
  refine Mh_aload_n 0 rfl dX12_setsAside_331 ?_
  refine Mh_gI fd_11_3 fl_RX12_199 dX12_setsAside_332 ?_
  refine Mh_ias dX12_setsAside_335 ?_
  exact t_X12_setsAside_336 l E c0 s0 _ _ _ _
def f_X12_setsAside_277b (k277 : Nat → Int32 → Int32 → Mm → Prop → Unit × Mm × Prop) (l0 : Nat) (l1 : Int32) (l2 : Int32) (m : Mm) (o : Prop) : Unit × Mm × Prop := if (192 : Int32) ≤ l2 then (f_X12_setsAside_321 l0 l1 (sI m (gR m l0 66) (ix ((6 : Int32) * l1)) (gI m l0 2)) (((o ∧ (gT m l0 = 12 ∧ gR m l0 66 ≠ 0)) ∧ gT m l0 = 12) ∧ (gT m (gR m l0 66) = 20 ∧ vp_in ((6 : Int32) * l1) (gN m (gR m l0 66))))) else (f_X12_setsAside_302 k277 l0 l1 l2 (sI m (gR m l0 65) (ix (((192 : Int32) * l1) + l2)) (gI m (gR m l0 21) (ix l2))) ((((o ∧ (gT m l0 = 12 ∧ gR m l0 65 ≠ 0)) ∧ (gT m l0 = 12 ∧ gR m l0 21 ≠ 0)) ∧ (gT m (gR m l0 21) = 20 ∧ vp_in l2 (gN m (gR m l0 21)))) ∧ (gT m (gR m l0 65) = 20 ∧ vp_in (((192 : Int32) * l1) + l2) (gN m (gR m l0 65)))))
set_option maxRecDepth 10000 in
theorem t_X12_setsAside_277b (l : Launch) (E : En) (c0 s0 : Nat) (k277 : Nat → Int32 → Int32 → Mm → Prop → Unit × Mm × Prop) (hk277 : ∀ (l0 : Nat) (l1 : Int32) (l2 : Int32) (m : Mm) (o : Prop), Mh wU l E mi_X12_setsAside c0 s0 277 [(0, .ref l0), (1, .int l1), (2, .int l2)] [] m o (k277 l0 l1 l2 m o)) (l0 : Nat) (l1 : Int32) (l2 : Int32) (m : Mm) (o : Prop) : Mh wU l E mi_X12_setsAside c0 s0 277 [(0, .ref l0), (1, .int l1), (2, .int l2)] [] m o (f_X12_setsAside_277b k277 l0 l1 l2 m o) := by
  refine Mh_iload_n 2 rfl dX12_setsAside_277 ?_
  refine Mh_sipush (v := 192) dX12_setsAside_278 (by decide) ?_
  refine Mh_icmp_ge (tgt := 308) dX12_setsAside_281 (by decide) rfl (fun _ => ?_) (fun _ => ?_)
  · refine Mh_aload_n 0 rfl dX12_setsAside_308 ?_
    refine Mh_gR fd_11_66 fl_RX12_154 dX12_setsAside_309 ?_
    refine Mh_bipush (v := 6) dX12_setsAside_312 (by decide) ?_
    refine Mh_iload_n 1 rfl dX12_setsAside_314 ?_
    refine Mh_imul dX12_setsAside_315 ?_
    refine Mh_aload_n 0 rfl dX12_setsAside_316 ?_
    refine Mh_gI fd_11_2 fl_RX12_192 dX12_setsAside_317 ?_
    refine Mh_ias dX12_setsAside_320 ?_
    refine Mh_sub (lv' := [(0, .ref l0), (1, .int l1)]) [0, 1] rfl ?_
    exact t_X12_setsAside_321 l E c0 s0 _ _ _ _
  · refine Mh_aload_n 0 rfl dX12_setsAside_284 ?_
    refine Mh_gR fd_11_65 fl_RX12_151 dX12_setsAside_285 ?_
    refine Mh_sipush (v := 192) dX12_setsAside_288 (by decide) ?_
    refine Mh_iload_n 1 rfl dX12_setsAside_291 ?_
    refine Mh_imul dX12_setsAside_292 ?_
    refine Mh_iload_n 2 rfl dX12_setsAside_293 ?_
    refine Mh_iadd dX12_setsAside_294 ?_
    refine Mh_aload_n 0 rfl dX12_setsAside_295 ?_
    refine Mh_gR fd_11_21 fl_RX12_61 dX12_setsAside_296 ?_
    refine Mh_iload_n 2 rfl dX12_setsAside_299 ?_
    refine Mh_ial dX12_setsAside_300 ?_
    refine Mh_ias dX12_setsAside_301 ?_
    exact t_X12_setsAside_302 l E c0 s0 k277 hk277 _ _ _ _ _
def f_X12_setsAside_277 : Nat → Nat → Int32 → Int32 → Mm → Prop → Unit × Mm × Prop
  | 0, _, _, _, m, _ => ((), m, False)
  | n + 1, l0, l1, l2, m, o => f_X12_setsAside_277b (f_X12_setsAside_277 n) l0 l1 l2 m o
theorem t_X12_setsAside_277 (l : Launch) (E : En) (c0 s0 : Nat) : ∀ (n : Nat) (l0 : Nat) (l1 : Int32) (l2 : Int32) (m : Mm) (o : Prop), Mh wU l E mi_X12_setsAside c0 s0 277 [(0, .ref l0), (1, .int l1), (2, .int l2)] [] m o (f_X12_setsAside_277 n l0 l1 l2 m o)
  | 0, _, _, _, _, _ => Mh_out rfl
  | n + 1, l0, l1, l2, m, o => t_X12_setsAside_277b l E c0 s0 (f_X12_setsAside_277 n) (t_X12_setsAside_277 l E c0 s0 n) l0 l1 l2 m o
def f_X12_setsAside_248b (k248 : Nat → Int32 → Int32 → Mm → Prop → Unit × Mm × Prop) (l0 : Nat) (l1 : Int32) (l2 : Int32) (m : Mm) (o : Prop) : Unit × Mm × Prop := if (5 : Int32) ≤ l2 then (f_X12_setsAside_277 1000 l0 l1 (0 : Int32) m o) else (f_X12_setsAside_269 k248 l0 l1 l2 (sI m (gR m l0 64) (ix (((5 : Int32) * l1) + l2)) (gI m (gR m l0 20) (ix l2))) ((((o ∧ (gT m l0 = 12 ∧ gR m l0 64 ≠ 0)) ∧ (gT m l0 = 12 ∧ gR m l0 20 ≠ 0)) ∧ (gT m (gR m l0 20) = 20 ∧ vp_in l2 (gN m (gR m l0 20)))) ∧ (gT m (gR m l0 64) = 20 ∧ vp_in (((5 : Int32) * l1) + l2) (gN m (gR m l0 64)))))
set_option maxRecDepth 10000 in
theorem t_X12_setsAside_248b (l : Launch) (E : En) (c0 s0 : Nat) (k248 : Nat → Int32 → Int32 → Mm → Prop → Unit × Mm × Prop) (hk248 : ∀ (l0 : Nat) (l1 : Int32) (l2 : Int32) (m : Mm) (o : Prop), Mh wU l E mi_X12_setsAside c0 s0 248 [(0, .ref l0), (1, .int l1), (2, .int l2)] [] m o (k248 l0 l1 l2 m o)) (l0 : Nat) (l1 : Int32) (l2 : Int32) (m : Mm) (o : Prop) : Mh wU l E mi_X12_setsAside c0 s0 248 [(0, .ref l0), (1, .int l1), (2, .int l2)] [] m o (f_X12_setsAside_248b k248 l0 l1 l2 m o) := by
  refine Mh_iload_n 2 rfl dX12_setsAside_248 ?_
  refine Mh_iconst (v := 5) dX12_setsAside_249 (by decide) ?_
  refine Mh_icmp_ge (tgt := 275) dX12_setsAside_250 (by decide) rfl (fun _ => ?_) (fun _ => ?_)
  · refine Mh_iconst (v := 0) dX12_setsAside_275 (by decide) ?_
    refine Mh_istore_n (lv' := [(2, .int (0 : Int32)), (0, .ref l0), (1, .int l1)]) dX12_setsAside_276 (Nat.le_of_ble_eq_true rfl) rfl ?_
    refine Mh_sub (lv' := [(0, .ref l0), (1, .int l1), (2, .int (0 : Int32))]) [1, 2, 0] rfl ?_
    exact t_X12_setsAside_277 l E c0 s0 _ _ _ _ _ _
  · refine Mh_aload_n 0 rfl dX12_setsAside_253 ?_
    refine Mh_gR fd_11_64 fl_RX12_148 dX12_setsAside_254 ?_
    refine Mh_iconst (v := 5) dX12_setsAside_257 (by decide) ?_
    refine Mh_iload_n 1 rfl dX12_setsAside_258 ?_
    refine Mh_imul dX12_setsAside_259 ?_
    refine Mh_iload_n 2 rfl dX12_setsAside_260 ?_
    refine Mh_iadd dX12_setsAside_261 ?_
    refine Mh_aload_n 0 rfl dX12_setsAside_262 ?_
    refine Mh_gR fd_11_20 fl_RX12_58 dX12_setsAside_263 ?_
    refine Mh_iload_n 2 rfl dX12_setsAside_266 ?_
    refine Mh_ial dX12_setsAside_267 ?_
    refine Mh_ias dX12_setsAside_268 ?_
    exact t_X12_setsAside_269 l E c0 s0 k248 hk248 _ _ _ _ _
def f_X12_setsAside_248 : Nat → Nat → Int32 → Int32 → Mm → Prop → Unit × Mm × Prop
  | 0, _, _, _, m, _ => ((), m, False)
  | n + 1, l0, l1, l2, m, o => f_X12_setsAside_248b (f_X12_setsAside_248 n) l0 l1 l2 m o
theorem t_X12_setsAside_248 (l : Launch) (E : En) (c0 s0 : Nat) : ∀ (n : Nat) (l0 : Nat) (l1 : Int32) (l2 : Int32) (m : Mm) (o : Prop), Mh wU l E mi_X12_setsAside c0 s0 248 [(0, .ref l0), (1, .int l1), (2, .int l2)] [] m o (f_X12_setsAside_248 n l0 l1 l2 m o)
  | 0, _, _, _, _, _ => Mh_out rfl
  | n + 1, l0, l1, l2, m, o => t_X12_setsAside_248b l E c0 s0 (f_X12_setsAside_248 n) (t_X12_setsAside_248 l E c0 s0 n) l0 l1 l2 m o
def f_X12_setsAside_217b (k217 : Nat → Int32 → Int32 → Mm → Prop → Unit × Mm × Prop) (l0 : Nat) (l1 : Int32) (l2 : Int32) (m : Mm) (o : Prop) : Unit × Mm × Prop := if (80 : Int32) ≤ l2 then (f_X12_setsAside_248 1000 l0 l1 (0 : Int32) m o) else (f_X12_setsAside_240 k217 l0 l1 l2 (sI m (gR m l0 63) (ix (((80 : Int32) * l1) + l2)) (gI m (gR m l0 19) (ix l2))) ((((o ∧ (gT m l0 = 12 ∧ gR m l0 63 ≠ 0)) ∧ (gT m l0 = 12 ∧ gR m l0 19 ≠ 0)) ∧ (gT m (gR m l0 19) = 20 ∧ vp_in l2 (gN m (gR m l0 19)))) ∧ (gT m (gR m l0 63) = 20 ∧ vp_in (((80 : Int32) * l1) + l2) (gN m (gR m l0 63)))))
set_option maxRecDepth 10000 in
theorem t_X12_setsAside_217b (l : Launch) (E : En) (c0 s0 : Nat) (k217 : Nat → Int32 → Int32 → Mm → Prop → Unit × Mm × Prop) (hk217 : ∀ (l0 : Nat) (l1 : Int32) (l2 : Int32) (m : Mm) (o : Prop), Mh wU l E mi_X12_setsAside c0 s0 217 [(0, .ref l0), (1, .int l1), (2, .int l2)] [] m o (k217 l0 l1 l2 m o)) (l0 : Nat) (l1 : Int32) (l2 : Int32) (m : Mm) (o : Prop) : Mh wU l E mi_X12_setsAside c0 s0 217 [(0, .ref l0), (1, .int l1), (2, .int l2)] [] m o (f_X12_setsAside_217b k217 l0 l1 l2 m o) := by
  refine Mh_iload_n 2 rfl dX12_setsAside_217 ?_
  refine Mh_bipush (v := 80) dX12_setsAside_218 (by decide) ?_
  refine Mh_icmp_ge (tgt := 246) dX12_setsAside_220 (by decide) rfl (fun _ => ?_) (fun _ => ?_)
  · refine Mh_iconst (v := 0) dX12_setsAside_246 (by decide) ?_
    refine Mh_istore_n (lv' := [(2, .int (0 : Int32)), (0, .ref l0), (1, .int l1)]) dX12_setsAside_247 (Nat.le_of_ble_eq_true rfl) rfl ?_
    refine Mh_sub (lv' := [(0, .ref l0), (1, .int l1), (2, .int (0 : Int32))]) [1, 2, 0] rfl ?_
    exact t_X12_setsAside_248 l E c0 s0 _ _ _ _ _ _
  · refine Mh_aload_n 0 rfl dX12_setsAside_223 ?_
    refine Mh_gR fd_11_63 fl_RX12_145 dX12_setsAside_224 ?_
    refine Mh_bipush (v := 80) dX12_setsAside_227 (by decide) ?_
    refine Mh_iload_n 1 rfl dX12_setsAside_229 ?_
    refine Mh_imul dX12_setsAside_230 ?_
    refine Mh_iload_n 2 rfl dX12_setsAside_231 ?_
    refine Mh_iadd dX12_setsAside_232 ?_
    refine Mh_aload_n 0 rfl dX12_setsAside_233 ?_
    refine Mh_gR fd_11_19 fl_RX12_55 dX12_setsAside_234 ?_
    refine Mh_iload_n 2 rfl dX12_setsAside_237 ?_
    refine Mh_ial dX12_setsAside_238 ?_
    refine Mh_ias dX12_setsAside_239 ?_
    exact t_X12_setsAside_240 l E c0 s0 k217 hk217 _ _ _ _ _
def f_X12_setsAside_217 : Nat → Nat → Int32 → Int32 → Mm → Prop → Unit × Mm × Prop
  | 0, _, _, _, m, _ => ((), m, False)
  | n + 1, l0, l1, l2, m, o => f_X12_setsAside_217b (f_X12_setsAside_217 n) l0 l1 l2 m o
theorem t_X12_setsAside_217 (l : Launch) (E : En) (c0 s0 : Nat) : ∀ (n : Nat) (l0 : Nat) (l1 : Int32) (l2 : Int32) (m : Mm) (o : Prop), Mh wU l E mi_X12_setsAside c0 s0 217 [(0, .ref l0), (1, .int l1), (2, .int l2)] [] m o (f_X12_setsAside_217 n l0 l1 l2 m o)
  | 0, _, _, _, _, _ => Mh_out rfl
  | n + 1, l0, l1, l2, m, o => t_X12_setsAside_217b l E c0 s0 (f_X12_setsAside_217 n) (t_X12_setsAside_217 l E c0 s0 n) l0 l1 l2 m o
def f_X12_setsAside_135b (k135 : Nat → Int32 → Int32 → Mm → Prop → Unit × Mm × Prop) (l0 : Nat) (l1 : Int32) (l2 : Int32) (m : Mm) (o : Prop) : Unit × Mm × Prop := if (16 : Int32) ≤ l2 then (f_X12_setsAside_217 1000 l0 l1 (0 : Int32) m o) else (f_X12_setsAside_158 k135 l0 l1 l2 (sI m (gR m l0 59) (ix (((16 : Int32) * l1) + l2)) (gI m (gR m l0 15) (ix l2))) ((((o ∧ (gT m l0 = 12 ∧ gR m l0 59 ≠ 0)) ∧ (gT m l0 = 12 ∧ gR m l0 15 ≠ 0)) ∧ (gT m (gR m l0 15) = 20 ∧ vp_in l2 (gN m (gR m l0 15)))) ∧ (gT m (gR m l0 59) = 20 ∧ vp_in (((16 : Int32) * l1) + l2) (gN m (gR m l0 59)))))
set_option maxRecDepth 10000 in
theorem t_X12_setsAside_135b (l : Launch) (E : En) (c0 s0 : Nat) (k135 : Nat → Int32 → Int32 → Mm → Prop → Unit × Mm × Prop) (hk135 : ∀ (l0 : Nat) (l1 : Int32) (l2 : Int32) (m : Mm) (o : Prop), Mh wU l E mi_X12_setsAside c0 s0 135 [(0, .ref l0), (1, .int l1), (2, .int l2)] [] m o (k135 l0 l1 l2 m o)) (l0 : Nat) (l1 : Int32) (l2 : Int32) (m : Mm) (o : Prop) : Mh wU l E mi_X12_setsAside c0 s0 135 [(0, .ref l0), (1, .int l1), (2, .int l2)] [] m o (f_X12_setsAside_135b k135 l0 l1 l2 m o) := by
  refine Mh_iload_n 2 rfl dX12_setsAside_135 ?_
  refine Mh_bipush (v := 16) dX12_setsAside_136 (by decide) ?_
  refine Mh_icmp_ge (tgt := 215) dX12_setsAside_138 (by decide) rfl (fun _ => ?_) (fun _ => ?_)
  · refine Mh_iconst (v := 0) dX12_setsAside_215 (by decide) ?_
    refine Mh_istore_n (lv' := [(2, .int (0 : Int32)), (0, .ref l0), (1, .int l1)]) dX12_setsAside_216 (Nat.le_of_ble_eq_true rfl) rfl ?_
    refine Mh_sub (lv' := [(0, .ref l0), (1, .int l1), (2, .int (0 : Int32))]) [1, 2, 0] rfl ?_
    exact t_X12_setsAside_217 l E c0 s0 _ _ _ _ _ _
  · refine Mh_aload_n 0 rfl dX12_setsAside_141 ?_
    refine Mh_gR fd_11_59 fl_RX12_133 dX12_setsAside_142 ?_
    refine Mh_bipush (v := 16) dX12_setsAside_145 (by decide) ?_
    refine Mh_iload_n 1 rfl dX12_setsAside_147 ?_
    refine Mh_imul dX12_setsAside_148 ?_
    refine Mh_iload_n 2 rfl dX12_setsAside_149 ?_
    refine Mh_iadd dX12_setsAside_150 ?_
    refine Mh_aload_n 0 rfl dX12_setsAside_151 ?_
    refine Mh_gR fd_11_15 fl_RX12_43 dX12_setsAside_152 ?_
    refine Mh_iload_n 2 rfl dX12_setsAside_155 ?_
    refine Mh_ial dX12_setsAside_156 ?_
    refine Mh_ias dX12_setsAside_157 ?_
    exact t_X12_setsAside_158 l E c0 s0 k135 hk135 _ _ _ _ _
def f_X12_setsAside_135 : Nat → Nat → Int32 → Int32 → Mm → Prop → Unit × Mm × Prop
  | 0, _, _, _, m, _ => ((), m, False)
  | n + 1, l0, l1, l2, m, o => f_X12_setsAside_135b (f_X12_setsAside_135 n) l0 l1 l2 m o
theorem t_X12_setsAside_135 (l : Launch) (E : En) (c0 s0 : Nat) : ∀ (n : Nat) (l0 : Nat) (l1 : Int32) (l2 : Int32) (m : Mm) (o : Prop), Mh wU l E mi_X12_setsAside c0 s0 135 [(0, .ref l0), (1, .int l1), (2, .int l2)] [] m o (f_X12_setsAside_135 n l0 l1 l2 m o)
  | 0, _, _, _, _, _ => Mh_out rfl
  | n + 1, l0, l1, l2, m, o => t_X12_setsAside_135b l E c0 s0 (f_X12_setsAside_135 n) (t_X12_setsAside_135 l E c0 s0 n) l0 l1 l2 m o
def f_X12_setsAside_2b (k2 : Nat → Int32 → Int32 → Mm → Prop → Unit × Mm × Prop) (l0 : Nat) (l1 : Int32) (l2 : Int32) (m : Mm) (o : Prop) : Unit × Mm × Prop := if (12 : Int32) ≤ l2 then (f_X12_setsAside_135 1000 l0 l1 (0 : Int32) m o) else (f_X12_setsAside_25 k2 l0 l1 l2 (sI m (gR m l0 52) (ix (((12 : Int32) * l1) + l2)) (gI m (gR m l0 8) (ix l2))) ((((o ∧ (gT m l0 = 12 ∧ gR m l0 52 ≠ 0)) ∧ (gT m l0 = 12 ∧ gR m l0 8 ≠ 0)) ∧ (gT m (gR m l0 8) = 20 ∧ vp_in l2 (gN m (gR m l0 8)))) ∧ (gT m (gR m l0 52) = 20 ∧ vp_in (((12 : Int32) * l1) + l2) (gN m (gR m l0 52)))))
set_option maxRecDepth 10000 in
theorem t_X12_setsAside_2b (l : Launch) (E : En) (c0 s0 : Nat) (k2 : Nat → Int32 → Int32 → Mm → Prop → Unit × Mm × Prop) (hk2 : ∀ (l0 : Nat) (l1 : Int32) (l2 : Int32) (m : Mm) (o : Prop), Mh wU l E mi_X12_setsAside c0 s0 2 [(0, .ref l0), (1, .int l1), (2, .int l2)] [] m o (k2 l0 l1 l2 m o)) (l0 : Nat) (l1 : Int32) (l2 : Int32) (m : Mm) (o : Prop) : Mh wU l E mi_X12_setsAside c0 s0 2 [(0, .ref l0), (1, .int l1), (2, .int l2)] [] m o (f_X12_setsAside_2b k2 l0 l1 l2 m o) := by
  refine Mh_iload_n 2 rfl dX12_setsAside_2 ?_
  refine Mh_bipush (v := 12) dX12_setsAside_3 (by decide) ?_
  refine Mh_icmp_ge (tgt := 133) dX12_setsAside_5 (by decide) rfl (fun _ => ?_) (fun _ => ?_)
  · refine Mh_iconst (v := 0) dX12_setsAside_133 (by decide) ?_
    refine Mh_istore_n (lv' := [(2, .int (0 : Int32)), (0, .ref l0), (1, .int l1)]) dX12_setsAside_134 (Nat.le_of_ble_eq_true rfl) rfl ?_
    refine Mh_sub (lv' := [(0, .ref l0), (1, .int l1), (2, .int (0 : Int32))]) [1, 2, 0] rfl ?_
    exact t_X12_setsAside_135 l E c0 s0 _ _ _ _ _ _
  · refine Mh_aload_n 0 rfl dX12_setsAside_8 ?_
    refine Mh_gR fd_11_52 fl_RX12_112 dX12_setsAside_9 ?_
    refine Mh_bipush (v := 12) dX12_setsAside_12 (by decide) ?_
    refine Mh_iload_n 1 rfl dX12_setsAside_14 ?_
    refine Mh_imul dX12_setsAside_15 ?_
    refine Mh_iload_n 2 rfl dX12_setsAside_16 ?_
    refine Mh_iadd dX12_setsAside_17 ?_
    refine Mh_aload_n 0 rfl dX12_setsAside_18 ?_
    refine Mh_gR fd_11_8 fl_RX12_20 dX12_setsAside_19 ?_
    refine Mh_iload_n 2 rfl dX12_setsAside_22 ?_
    refine Mh_ial dX12_setsAside_23 ?_
    refine Mh_ias dX12_setsAside_24 ?_
    exact t_X12_setsAside_25 l E c0 s0 k2 hk2 _ _ _ _ _
def f_X12_setsAside_2 : Nat → Nat → Int32 → Int32 → Mm → Prop → Unit × Mm × Prop
  | 0, _, _, _, m, _ => ((), m, False)
  | n + 1, l0, l1, l2, m, o => f_X12_setsAside_2b (f_X12_setsAside_2 n) l0 l1 l2 m o
theorem t_X12_setsAside_2 (l : Launch) (E : En) (c0 s0 : Nat) : ∀ (n : Nat) (l0 : Nat) (l1 : Int32) (l2 : Int32) (m : Mm) (o : Prop), Mh wU l E mi_X12_setsAside c0 s0 2 [(0, .ref l0), (1, .int l1), (2, .int l2)] [] m o (f_X12_setsAside_2 n l0 l1 l2 m o)
  | 0, _, _, _, _, _ => Mh_out rfl
  | n + 1, l0, l1, l2, m, o => t_X12_setsAside_2b l E c0 s0 (f_X12_setsAside_2 n) (t_X12_setsAside_2 l E c0 s0 n) l0 l1 l2 m o
def f_X12_setsAside_0 (l0 : Nat) (l1 : Int32) (m : Mm) (o : Prop) : Unit × Mm × Prop := f_X12_setsAside_2 1000 l0 l1 (0 : Int32) m o
set_option maxRecDepth 10000 in
theorem t_X12_setsAside_0 (l : Launch) (E : En) (c0 s0 : Nat) (l0 : Nat) (l1 : Int32) (m : Mm) (o : Prop) : Mh wU l E mi_X12_setsAside c0 s0 0 [(0, .ref l0), (1, .int l1)] [] m o (f_X12_setsAside_0 l0 l1 m o) := by
  refine Mh_iconst (v := 0) dX12_setsAside_0 (by decide) ?_
  refine Mh_istore_n (lv' := [(2, .int (0 : Int32)), (0, .ref l0), (1, .int l1)]) dX12_setsAside_1 (Nat.le_of_ble_eq_true rfl) rfl ?_
  refine Mh_sub (lv' := [(0, .ref l0), (1, .int l1), (2, .int (0 : Int32))]) [1, 2, 0] rfl ?_
  exact t_X12_setsAside_2 l E c0 s0 _ _ _ _ _ _
def F_X12_setsAside (a0 : Nat) (a1 : Int32) (m : Mm) (o : Prop) : Unit × Mm × Prop := f_X12_setsAside_0 a0 a1 m o
theorem T_X12_setsAside (l : Launch) (E : En) (a0 : Nat) (a1 : Int32) (m : Mm) (o : Prop) : Mt wU l E yX12_setsAside mi_X12_setsAside [.ref a0, .int a1] m o (F_X12_setsAside a0 a1 m o) :=
  Mt_U (by decide) rfl (fun h => by cases h) rfl (Nat.le_of_ble_eq_true rfl) rfl (t_X12_setsAside_0 l E _ _ _ _ _ _)
def f_X12_spreads_55 (k2 : Nat → Int32 → Int32 → Mm → Prop → Unit × Mm × Prop) (l0 : Nat) (l1 : Int32) (l2 : Int32) (m : Mm) (o : Prop) : Unit × Mm × Prop := k2 l0 l1 (l2 + 1) m o
set_option maxRecDepth 10000 in
theorem t_X12_spreads_55 (l : Launch) (E : En) (c0 s0 : Nat) (k2 : Nat → Int32 → Int32 → Mm → Prop → Unit × Mm × Prop) (hk2 : ∀ (l0 : Nat) (l1 : Int32) (l2 : Int32) (m : Mm) (o : Prop), Mh wU l E mi_X12_spreads c0 s0 2 [(0, .ref l0), (1, .int l1), (2, .int l2)] [] m o (k2 l0 l1 l2 m o)) (l0 : Nat) (l1 : Int32) (l2 : Int32) (m : Mm) (o : Prop) : Mh wU l E mi_X12_spreads c0 s0 55 [(0, .ref l0), (1, .int l1), (2, .int l2)] [] m o (f_X12_spreads_55 k2 l0 l1 l2 m o) := by
  refine Mh_iinc (v := l2 + 1) (lv' := [(2, .int (l2 + 1)), (0, .ref l0), (1, .int l1)]) 2 dX12_spreads_55 rfl rfl (Nat.le_of_ble_eq_true rfl) rfl ?_
  refine Mh_goto (tgt := 2) dX12_spreads_58 (by decide) ?_
  refine Mh_sub (lv' := [(0, .ref l0), (1, .int l1), (2, .int (l2 + 1))]) [1, 2, 0] rfl ?_
  exact hk2 _ _ _ _ _
def f_X12_spreads_54 (k2 : Nat → Int32 → Int32 → Mm → Prop → Unit × Mm × Prop) (l0 : Nat) (l1 : Int32) (l2 : Int32) (y2 : Int32) (y1 : Int32) (y0 : Nat) (m : Mm) (o : Prop) : Unit × Mm × Prop := f_X12_spreads_55 k2 l0 l1 l2 (sI m y0 (ix y1) y2) (o ∧ (gT m y0 = 20 ∧ vp_in y1 (gN m y0)))
set_option maxRecDepth 10000 in
theorem t_X12_spreads_54 (l : Launch) (E : En) (c0 s0 : Nat) (k2 : Nat → Int32 → Int32 → Mm → Prop → Unit × Mm × Prop) (hk2 : ∀ (l0 : Nat) (l1 : Int32) (l2 : Int32) (m : Mm) (o : Prop), Mh wU l E mi_X12_spreads c0 s0 2 [(0, .ref l0), (1, .int l1), (2, .int l2)] [] m o (k2 l0 l1 l2 m o)) (l0 : Nat) (l1 : Int32) (l2 : Int32) (y2 : Int32) (y1 : Int32) (y0 : Nat) (m : Mm) (o : Prop) : Mh wU l E mi_X12_spreads c0 s0 54 [(0, .ref l0), (1, .int l1), (2, .int l2)] [.int y2, .int y1, .ref y0] m o (f_X12_spreads_54 k2 l0 l1 l2 y2 y1 y0 m o) := by
  refine Mh_ias dX12_spreads_54 ?_
  exact t_X12_spreads_55 l E c0 s0 k2 hk2 _ _ _ _ _
def f_X12_spreads_30 (k2 : Nat → Int32 → Int32 → Mm → Prop → Unit × Mm × Prop) (l0 : Nat) (l1 : Int32) (l2 : Int32) (y1 : Int32) (y0 : Int32) (m : Mm) (o : Prop) : Unit × Mm × Prop := if (y0 + y1) ≤ (99 : Int32) then (f_X12_spreads_54 k2 l0 l1 l2 (y0 + y1) (gI m (gR m l0 68) (ix l2)) (gR m l0 11) m (((o ∧ (gT m l0 = 12 ∧ gR m l0 11 ≠ 0)) ∧ (gT m l0 = 12 ∧ gR m l0 68 ≠ 0)) ∧ (gT m (gR m l0 68) = 20 ∧ vp_in l2 (gN m (gR m l0 68))))) else (f_X12_spreads_54 k2 l0 l1 l2 (99 : Int32) (gI m (gR m l0 68) (ix l2)) (gR m l0 11) m (((o ∧ (gT m l0 = 12 ∧ gR m l0 11 ≠ 0)) ∧ (gT m l0 = 12 ∧ gR m l0 68 ≠ 0)) ∧ (gT m (gR m l0 68) = 20 ∧ vp_in l2 (gN m (gR m l0 68)))))
set_option maxRecDepth 10000 in
theorem t_X12_spreads_30 (l : Launch) (E : En) (c0 s0 : Nat) (k2 : Nat → Int32 → Int32 → Mm → Prop → Unit × Mm × Prop) (hk2 : ∀ (l0 : Nat) (l1 : Int32) (l2 : Int32) (m : Mm) (o : Prop), Mh wU l E mi_X12_spreads c0 s0 2 [(0, .ref l0), (1, .int l1), (2, .int l2)] [] m o (k2 l0 l1 l2 m o)) (l0 : Nat) (l1 : Int32) (l2 : Int32) (y1 : Int32) (y0 : Int32) (m : Mm) (o : Prop) : Mh wU l E mi_X12_spreads c0 s0 30 [(0, .ref l0), (1, .int l1), (2, .int l2)] [.int y1, .int y0] m o (f_X12_spreads_30 k2 l0 l1 l2 y1 y0 m o) := by
  refine Mh_iadd dX12_spreads_30 ?_
  refine Mh_istore_n (lv' := [(3, .int (y0 + y1)), (0, .ref l0), (1, .int l1), (2, .int l2)]) dX12_spreads_31 (Nat.le_of_ble_eq_true rfl) rfl ?_
  refine Mh_aload_n 1 rfl dX12_spreads_32 ?_
  refine Mh_gR fd_11_11 fl_RX12_30 dX12_spreads_33 ?_
  refine Mh_aload_n 1 rfl dX12_spreads_36 ?_
  refine Mh_gR fd_11_68 fl_RX12_160 dX12_spreads_37 ?_
  refine Mh_iload_n 3 rfl dX12_spreads_40 ?_
  refine Mh_ial dX12_spreads_41 ?_
  refine Mh_iload_n 0 rfl dX12_spreads_42 ?_
  refine Mh_bipush (v := 99) dX12_spreads_43 (by decide) ?_
  refine Mh_icmp_le (tgt := 53) dX12_spreads_45 (by decide) rfl (fun _ => ?_) (fun _ => ?_)
  · refine Mh_iload_n 0 rfl dX12_spreads_53 ?_
    refine Mh_sub (lv' := [(0, .ref l0), (1, .int l1), (2, .int l2)]) [1, 2, 3] rfl ?_
    exact t_X12_spreads_54 l E c0 s0 k2 hk2 _ _ _ _ _ _ _ _
  · refine Mh_bipush (v := 99) dX12_spreads_48 (by decide) ?_
    refine Mh_goto (tgt := 54) dX12_spreads_50 (by decide) ?_
    refine Mh_sub (lv' := [(0, .ref l0), (1, .int l1), (2, .int l2)]) [1, 2, 3] rfl ?_
    exact t_X12_spreads_54 l E c0 s0 k2 hk2 _ _ _ _ _ _ _ _
def f_X12_spreads_2b (k2 : Nat → Int32 → Int32 → Mm → Prop → Unit × Mm × Prop) (l0 : Nat) (l1 : Int32) (l2 : Int32) (m : Mm) (o : Prop) : Unit × Mm × Prop := if (gI m l0 69) ≤ l2 then ((), m, (o ∧ gT m l0 = 12)) else (bnd (F_X12_digit l1 (gI m l0 69) l2 m (((((o ∧ gT m l0 = 12) ∧ (gT m l0 = 12 ∧ gR m l0 11 ≠ 0)) ∧ (gT m l0 = 12 ∧ gR m l0 68 ≠ 0)) ∧ (gT m (gR m l0 68) = 20 ∧ vp_in l2 (gN m (gR m l0 68)))) ∧ (gT m (gR m l0 11) = 20 ∧ vp_in (gI m (gR m l0 68) (ix l2)) (gN m (gR m l0 11))))) (fun v1 m1 o1 => f_X12_spreads_30 k2 l0 l1 l2 v1 (gI m (gR m l0 11) (ix (gI m (gR m l0 68) (ix l2)))) m1 o1))
set_option maxRecDepth 10000 in
theorem t_X12_spreads_2b (l : Launch) (E : En) (c0 s0 : Nat) (k2 : Nat → Int32 → Int32 → Mm → Prop → Unit × Mm × Prop) (hk2 : ∀ (l0 : Nat) (l1 : Int32) (l2 : Int32) (m : Mm) (o : Prop), Mh wU l E mi_X12_spreads c0 s0 2 [(0, .ref l0), (1, .int l1), (2, .int l2)] [] m o (k2 l0 l1 l2 m o)) (l0 : Nat) (l1 : Int32) (l2 : Int32) (m : Mm) (o : Prop) : Mh wU l E mi_X12_spreads c0 s0 2 [(0, .ref l0), (1, .int l1), (2, .int l2)] [] m o (f_X12_spreads_2b k2 l0 l1 l2 m o) := by
  refine Mh_iload_n 2 rfl dX12_spreads_2 ?_
  refine Mh_aload_n 0 rfl dX12_spreads_3 ?_
  refine Mh_gI fd_11_69 fl_RX12_425 dX12_spreads_4 ?_
  refine Mh_icmp_ge (tgt := 61) dX12_spreads_7 (by decide) rfl (fun _ => ?_) (fun _ => ?_)
  · exact Mh_ret dX12_spreads_61 rfl (fun _ => trivial) rfl
  · refine Mh_aload_n 0 rfl dX12_spreads_10 ?_
    refine Mh_gR fd_11_11 fl_RX12_30 dX12_spreads_11 ?_
    refine Mh_aload_n 0 rfl dX12_spreads_14 ?_
    refine Mh_gR fd_11_68 fl_RX12_160 dX12_spreads_15 ?_
    refine Mh_iload_n 2 rfl dX12_spreads_18 ?_
    refine Mh_ial dX12_spreads_19 ?_
    refine Mh_ial dX12_spreads_20 ?_
    refine Mh_iload_n 1 rfl dX12_spreads_21 ?_
    refine Mh_aload_n 0 rfl dX12_spreads_22 ?_
    refine Mh_gI fd_11_69 fl_RX12_425 dX12_spreads_23 ?_
    refine Mh_ok (fun h => h.1.1.1.1.2) ?_
    refine Mh_iload_n 2 rfl dX12_spreads_26 ?_
    refine Mh_csI (N := mi_X12_digit) (as := [.int l1, .int (gI m l0 69), .int l2]) (st := [.int (gI m (gR m l0 11) (ix (gI m (gR m l0 68) (ix l2))))]) cg_yX12_digit (.inl ml_RX12_428) sv_yX12_digit pd_yX12_digit rfl (by decide) (Nat.le_of_ble_eq_true rfl) rfl dX12_spreads_27 (T_X12_digit l E _ _ _ _ _) rfl ?_
    exact t_X12_spreads_30 l E c0 s0 k2 hk2 _ _ _ _ _ _ _
def f_X12_spreads_2 : Nat → Nat → Int32 → Int32 → Mm → Prop → Unit × Mm × Prop
  | 0, _, _, _, m, _ => ((), m, False)
  | n + 1, l0, l1, l2, m, o => f_X12_spreads_2b (f_X12_spreads_2 n) l0 l1 l2 m o
theorem t_X12_spreads_2 (l : Launch) (E : En) (c0 s0 : Nat) : ∀ (n : Nat) (l0 : Nat) (l1 : Int32) (l2 : Int32) (m : Mm) (o : Prop), Mh wU l E mi_X12_spreads c0 s0 2 [(0, .ref l0), (1, .int l1), (2, .int l2)] [] m o (f_X12_spreads_2 n l0 l1 l2 m o)
  | 0, _, _, _, _, _ => Mh_out rfl
  | n + 1, l0, l1, l2, m, o => t_X12_spreads_2b l E c0 s0 (f_X12_spreads_2 n) (t_X12_spreads_2 l E c0 s0 n) l0 l1 l2 m o
def f_X12_spreads_0 (l0 : Nat) (l1 : Int32) (m : Mm) (o : Prop) : Unit × Mm × Prop := f_X12_spreads_2 1000 l0 l1 (0 : Int32) m o
set_option maxRecDepth 10000 in
theorem t_X12_spreads_0 (l : Launch) (E : En) (c0 s0 : Nat) (l0 : Nat) (l1 : Int32) (m : Mm) (o : Prop) : Mh wU l E mi_X12_spreads c0 s0 0 [(0, .ref l0), (1, .int l1)] [] m o (f_X12_spreads_0 l0 l1 m o) := by
  refine Mh_iconst (v := 0) dX12_spreads_0 (by decide) ?_
  refine Mh_istore_n (lv' := [(2, .int (0 : Int32)), (0, .ref l0), (1, .int l1)]) dX12_spreads_1 (Nat.le_of_ble_eq_true rfl) rfl ?_
  refine Mh_sub (lv' := [(0, .ref l0), (1, .int l1), (2, .int (0 : Int32))]) [1, 2, 0] rfl ?_
  exact t_X12_spreads_2 l E c0 s0 _ _ _ _ _ _
def F_X12_spreads (a0 : Nat) (a1 : Int32) (m : Mm) (o : Prop) : Unit × Mm × Prop := f_X12_spreads_0 a0 a1 m o
theorem T_X12_spreads (l : Launch) (E : En) (a0 : Nat) (a1 : Int32) (m : Mm) (o : Prop) : Mt wU l E yX12_spreads mi_X12_spreads [.ref a0, .int a1] m o (F_X12_spreads a0 a1 m o) :=
  Mt_U (by decide) rfl (fun h => by cases h) rfl (Nat.le_of_ble_eq_true rfl) rfl (t_X12_spreads_0 l E _ _ _ _ _ _)
def f_X12_wins_29 (k2 : Nat → Int32 → Int32 → Mm → Prop → Int32 × Mm × Prop) (l0 : Nat) (l1 : Int32) (l2 : Int32) (m : Mm) (o : Prop) : Int32 × Mm × Prop := k2 l0 l1 (l2 + 1) m o
set_option maxRecDepth 10000 in
theorem t_X12_wins_29 (l : Launch) (E : En) (c0 s0 : Nat) (k2 : Nat → Int32 → Int32 → Mm → Prop → Int32 × Mm × Prop) (hk2 : ∀ (l0 : Nat) (l1 : Int32) (l2 : Int32) (m : Mm) (o : Prop), Mh wI l E mi_X12_wins c0 s0 2 [(0, .ref l0), (1, .int l1), (2, .int l2)] [] m o (k2 l0 l1 l2 m o)) (l0 : Nat) (l1 : Int32) (l2 : Int32) (m : Mm) (o : Prop) : Mh wI l E mi_X12_wins c0 s0 29 [(0, .ref l0), (1, .int l1), (2, .int l2)] [] m o (f_X12_wins_29 k2 l0 l1 l2 m o) := by
  refine Mh_iinc (v := l2 + 1) (lv' := [(2, .int (l2 + 1)), (0, .ref l0), (1, .int l1)]) 2 dX12_wins_29 rfl rfl (Nat.le_of_ble_eq_true rfl) rfl ?_
  refine Mh_goto (tgt := 2) dX12_wins_32 (by decide) ?_
  refine Mh_sub (lv' := [(0, .ref l0), (1, .int l1), (2, .int (l2 + 1))]) [1, 2, 0] rfl ?_
  exact hk2 _ _ _ _ _
def f_X12_wins_2b (k2 : Nat → Int32 → Int32 → Mm → Prop → Int32 × Mm × Prop) (l0 : Nat) (l1 : Int32) (l2 : Int32) (m : Mm) (o : Prop) : Int32 × Mm × Prop := if (5 : Int32) ≤ l2 then ((1 : Int32), m, o) else (if l2 = l1 then (f_X12_wins_29 k2 l0 l1 l2 m o) else (if (gI m (gR m l0 67) (ix l2)) < (gI m (gR m l0 67) (ix l1)) then (f_X12_wins_29 k2 l0 l1 l2 m (((o ∧ (gT m l0 = 12 ∧ gR m l0 67 ≠ 0)) ∧ (gT m (gR m l0 67) = 20 ∧ vp_in l2 (gN m (gR m l0 67)))) ∧ (gT m (gR m l0 67) = 20 ∧ vp_in l1 (gN m (gR m l0 67))))) else ((0 : Int32), m, (((o ∧ (gT m l0 = 12 ∧ gR m l0 67 ≠ 0)) ∧ (gT m (gR m l0 67) = 20 ∧ vp_in l2 (gN m (gR m l0 67)))) ∧ (gT m (gR m l0 67) = 20 ∧ vp_in l1 (gN m (gR m l0 67)))))))
set_option maxRecDepth 10000 in
theorem t_X12_wins_2b (l : Launch) (E : En) (c0 s0 : Nat) (k2 : Nat → Int32 → Int32 → Mm → Prop → Int32 × Mm × Prop) (hk2 : ∀ (l0 : Nat) (l1 : Int32) (l2 : Int32) (m : Mm) (o : Prop), Mh wI l E mi_X12_wins c0 s0 2 [(0, .ref l0), (1, .int l1), (2, .int l2)] [] m o (k2 l0 l1 l2 m o)) (l0 : Nat) (l1 : Int32) (l2 : Int32) (m : Mm) (o : Prop) : Mh wI l E mi_X12_wins c0 s0 2 [(0, .ref l0), (1, .int l1), (2, .int l2)] [] m o (f_X12_wins_2b k2 l0 l1 l2 m o) := by
  refine Mh_iload_n 2 rfl dX12_wins_2 ?_
  refine Mh_iconst (v := 5) dX12_wins_3 (by decide) ?_
  refine Mh_icmp_ge (tgt := 35) dX12_wins_4 (by decide) rfl (fun _ => ?_) (fun _ => ?_)
  · refine Mh_iconst (v := 1) dX12_wins_35 (by decide) ?_
    exact Mh_ret dX12_wins_36 rfl (fun _ => rk1Z) rfl
  · refine Mh_iload_n 2 rfl dX12_wins_7 ?_
    refine Mh_iload_n 1 rfl dX12_wins_8 ?_
    refine Mh_icmp_eq (tgt := 29) dX12_wins_9 (by decide) rfl (fun _ => ?_) (fun _ => ?_)
    · exact t_X12_wins_29 l E c0 s0 k2 hk2 _ _ _ _ _
    · refine Mh_aload_n 0 rfl dX12_wins_12 ?_
      refine Mh_gR fd_11_67 fl_RX12_157 dX12_wins_13 ?_
      refine Mh_iload_n 2 rfl dX12_wins_16 ?_
      refine Mh_ial dX12_wins_17 ?_
      refine Mh_aload_n 0 rfl dX12_wins_18 ?_
      refine Mh_gR fd_11_67 fl_RX12_157 dX12_wins_19 ?_
      refine Mh_ok (fun h => h.1.2) ?_
      refine Mh_iload_n 1 rfl dX12_wins_22 ?_
      refine Mh_ial dX12_wins_23 ?_
      refine Mh_icmp_lt (tgt := 29) dX12_wins_24 (by decide) rfl (fun _ => ?_) (fun _ => ?_)
      · exact t_X12_wins_29 l E c0 s0 k2 hk2 _ _ _ _ _
      · refine Mh_iconst (v := 0) dX12_wins_27 (by decide) ?_
        exact Mh_ret dX12_wins_28 rfl (fun _ => rk0Z) rfl
def f_X12_wins_2 : Nat → Nat → Int32 → Int32 → Mm → Prop → Int32 × Mm × Prop
  | 0, _, _, _, m, _ => (0, m, False)
  | n + 1, l0, l1, l2, m, o => f_X12_wins_2b (f_X12_wins_2 n) l0 l1 l2 m o
theorem t_X12_wins_2 (l : Launch) (E : En) (c0 s0 : Nat) : ∀ (n : Nat) (l0 : Nat) (l1 : Int32) (l2 : Int32) (m : Mm) (o : Prop), Mh wI l E mi_X12_wins c0 s0 2 [(0, .ref l0), (1, .int l1), (2, .int l2)] [] m o (f_X12_wins_2 n l0 l1 l2 m o)
  | 0, _, _, _, _, _ => Mh_out rfl
  | n + 1, l0, l1, l2, m, o => t_X12_wins_2b l E c0 s0 (f_X12_wins_2 n) (t_X12_wins_2 l E c0 s0 n) l0 l1 l2 m o
def f_X12_wins_0 (l0 : Nat) (l1 : Int32) (m : Mm) (o : Prop) : Int32 × Mm × Prop := f_X12_wins_2 1000 l0 l1 (0 : Int32) m o
set_option maxRecDepth 10000 in
theorem t_X12_wins_0 (l : Launch) (E : En) (c0 s0 : Nat) (l0 : Nat) (l1 : Int32) (m : Mm) (o : Prop) : Mh wI l E mi_X12_wins c0 s0 0 [(0, .ref l0), (1, .int l1)] [] m o (f_X12_wins_0 l0 l1 m o) := by
  refine Mh_iconst (v := 0) dX12_wins_0 (by decide) ?_
  refine Mh_istore_n (lv' := [(2, .int (0 : Int32)), (0, .ref l0), (1, .int l1)]) dX12_wins_1 (Nat.le_of_ble_eq_true rfl) rfl ?_
  refine Mh_sub (lv' := [(0, .ref l0), (1, .int l1), (2, .int (0 : Int32))]) [1, 2, 0] rfl ?_
  exact t_X12_wins_2 l E c0 s0 _ _ _ _ _ _
def F_X12_wins (a0 : Nat) (a1 : Int32) (m : Mm) (o : Prop) : Int32 × Mm × Prop := f_X12_wins_0 a0 a1 m o
theorem T_X12_wins (l : Launch) (E : En) (a0 : Nat) (a1 : Int32) (m : Mm) (o : Prop) : Mt wI l E yX12_wins mi_X12_wins [.ref a0, .int a1] m o (F_X12_wins a0 a1 m o) :=
  Mt_I (by decide) rfl rfl rfl (Nat.le_of_ble_eq_true rfl) rfl (.inr (.inl rfl)) (t_X12_wins_0 l E _ _ _ _ _ _)
