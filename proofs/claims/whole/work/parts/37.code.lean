def f_X12_putsBack_127 (k2 : Nat → Int32 → Int32 → Mm → Prop → Unit × Mm × Prop) (l0 : Nat) (l1 : Int32) (l2 : Int32) (m : Mm) (o : Prop) : Unit × Mm × Prop := k2 l0 l1 (l2 + 1) m o
set_option maxRecDepth 10000 in
theorem t_X12_putsBack_127 (l : Launch) (E : En) (c0 s0 : Nat) (k2 : Nat → Int32 → Int32 → Mm → Prop → Unit × Mm × Prop) (hk2 : ∀ (l0 : Nat) (l1 : Int32) (l2 : Int32) (m : Mm) (o : Prop), Mh wU l E mi_X12_putsBack c0 s0 2 [(0, .ref l0), (1, .int l1), (2, .int l2)] [] m o (k2 l0 l1 l2 m o)) (l0 : Nat) (l1 : Int32) (l2 : Int32) (m : Mm) (o : Prop) : Mh wU l E mi_X12_putsBack c0 s0 127 [(0, .ref l0), (1, .int l1), (2, .int l2)] [] m o (f_X12_putsBack_127 k2 l0 l1 l2 m o) := by
  refine Mh_iinc (v := l2 + 1) (lv' := [(2, .int (l2 + 1)), (0, .ref l0), (1, .int l1)]) 2 dX12_putsBack_127 rfl rfl (Nat.le_of_ble_eq_true rfl) rfl ?_
  refine Mh_goto (tgt := 2) dX12_putsBack_130 (by decide) ?_
  refine Mh_sub (lv' := [(0, .ref l0), (1, .int l1), (2, .int (l2 + 1))]) [1, 2, 0] rfl ?_
  exact hk2 _ _ _ _ _
def f_X12_putsBack_110 (k2 : Nat → Int32 → Int32 → Mm → Prop → Unit × Mm × Prop) (l0 : Nat) (l1 : Int32) (l2 : Int32) (m : Mm) (o : Prop) : Unit × Mm × Prop := f_X12_putsBack_127 k2 l0 l1 l2 (sI m (gR m l0 14) (ix l2) ((gI m (gR m l0 58) (ix (((12 : Int32) * l1) + l2))) &&& 1)) ((((o ∧ (gT m l0 = 12 ∧ gR m l0 14 ≠ 0)) ∧ (gT m l0 = 12 ∧ gR m l0 58 ≠ 0)) ∧ (gT m (gR m l0 58) = 22 ∧ vp_in (((12 : Int32) * l1) + l2) (gN m (gR m l0 58)))) ∧ (gT m (gR m l0 14) = 22 ∧ vp_in l2 (gN m (gR m l0 14))))
set_option maxRecDepth 10000 in
theorem t_X12_putsBack_110 (l : Launch) (E : En) (c0 s0 : Nat) (k2 : Nat → Int32 → Int32 → Mm → Prop → Unit × Mm × Prop) (hk2 : ∀ (l0 : Nat) (l1 : Int32) (l2 : Int32) (m : Mm) (o : Prop), Mh wU l E mi_X12_putsBack c0 s0 2 [(0, .ref l0), (1, .int l1), (2, .int l2)] [] m o (k2 l0 l1 l2 m o)) (l0 : Nat) (l1 : Int32) (l2 : Int32) (m : Mm) (o : Prop) : Mh wU l E mi_X12_putsBack c0 s0 110 [(0, .ref l0), (1, .int l1), (2, .int l2)] [] m o (f_X12_putsBack_110 k2 l0 l1 l2 m o) := by
  refine Mh_aload_n 0 rfl dX12_putsBack_110 ?_
  refine Mh_gR fd_11_14 fl_RX12_39 dX12_putsBack_111 ?_
  refine Mh_iload_n 2 rfl dX12_putsBack_114 ?_
  refine Mh_aload_n 0 rfl dX12_putsBack_115 ?_
  refine Mh_gR fd_11_58 fl_RX12_130 dX12_putsBack_116 ?_
  refine Mh_bipush (v := 12) dX12_putsBack_119 (by decide) ?_
  refine Mh_iload_n 1 rfl dX12_putsBack_121 ?_
  refine Mh_imul dX12_putsBack_122 ?_
  refine Mh_iload_n 2 rfl dX12_putsBack_123 ?_
  refine Mh_iadd dX12_putsBack_124 ?_
  refine Mh_zal dX12_putsBack_125 ?_
  refine Mh_zas dX12_putsBack_126 ?_
  exact t_X12_putsBack_127 l E c0 s0 k2 hk2 _ _ _ _ _
def f_X12_putsBack_93 (k2 : Nat → Int32 → Int32 → Mm → Prop → Unit × Mm × Prop) (l0 : Nat) (l1 : Int32) (l2 : Int32) (m : Mm) (o : Prop) : Unit × Mm × Prop := f_X12_putsBack_110 k2 l0 l1 l2 (sI m (gR m l0 13) (ix l2) (gI m (gR m l0 57) (ix (((12 : Int32) * l1) + l2)))) ((((o ∧ (gT m l0 = 12 ∧ gR m l0 13 ≠ 0)) ∧ (gT m l0 = 12 ∧ gR m l0 57 ≠ 0)) ∧ (gT m (gR m l0 57) = 20 ∧ vp_in (((12 : Int32) * l1) + l2) (gN m (gR m l0 57)))) ∧ (gT m (gR m l0 13) = 20 ∧ vp_in l2 (gN m (gR m l0 13))))
set_option maxRecDepth 10000 in
theorem t_X12_putsBack_93 (l : Launch) (E : En) (c0 s0 : Nat) (k2 : Nat → Int32 → Int32 → Mm → Prop → Unit × Mm × Prop) (hk2 : ∀ (l0 : Nat) (l1 : Int32) (l2 : Int32) (m : Mm) (o : Prop), Mh wU l E mi_X12_putsBack c0 s0 2 [(0, .ref l0), (1, .int l1), (2, .int l2)] [] m o (k2 l0 l1 l2 m o)) (l0 : Nat) (l1 : Int32) (l2 : Int32) (m : Mm) (o : Prop) : Mh wU l E mi_X12_putsBack c0 s0 93 [(0, .ref l0), (1, .int l1), (2, .int l2)] [] m o (f_X12_putsBack_93 k2 l0 l1 l2 m o) := by
  refine Mh_aload_n 0 rfl dX12_putsBack_93 ?_
  refine Mh_gR fd_11_13 fl_RX12_36 dX12_putsBack_94 ?_
  refine Mh_iload_n 2 rfl dX12_putsBack_97 ?_
  refine Mh_aload_n 0 rfl dX12_putsBack_98 ?_
  refine Mh_gR fd_11_57 fl_RX12_127 dX12_putsBack_99 ?_
  refine Mh_bipush (v := 12) dX12_putsBack_102 (by decide) ?_
  refine Mh_iload_n 1 rfl dX12_putsBack_104 ?_
  refine Mh_imul dX12_putsBack_105 ?_
  refine Mh_iload_n 2 rfl dX12_putsBack_106 ?_
  refine Mh_iadd dX12_putsBack_107 ?_
  refine Mh_ial dX12_putsBack_108 ?_
  refine Mh_ias dX12_putsBack_109 ?_
  exact t_X12_putsBack_110 l E c0 s0 k2 hk2 _ _ _ _ _
def f_X12_putsBack_76 (k2 : Nat → Int32 → Int32 → Mm → Prop → Unit × Mm × Prop) (l0 : Nat) (l1 : Int32) (l2 : Int32) (m : Mm) (o : Prop) : Unit × Mm × Prop := f_X12_putsBack_93 k2 l0 l1 l2 (sI m (gR m l0 12) (ix l2) (gI m (gR m l0 56) (ix (((12 : Int32) * l1) + l2)))) ((((o ∧ (gT m l0 = 12 ∧ gR m l0 12 ≠ 0)) ∧ (gT m l0 = 12 ∧ gR m l0 56 ≠ 0)) ∧ (gT m (gR m l0 56) = 20 ∧ vp_in (((12 : Int32) * l1) + l2) (gN m (gR m l0 56)))) ∧ (gT m (gR m l0 12) = 20 ∧ vp_in l2 (gN m (gR m l0 12))))
set_option maxRecDepth 10000 in
theorem t_X12_putsBack_76 (l : Launch) (E : En) (c0 s0 : Nat) (k2 : Nat → Int32 → Int32 → Mm → Prop → Unit × Mm × Prop) (hk2 : ∀ (l0 : Nat) (l1 : Int32) (l2 : Int32) (m : Mm) (o : Prop), Mh wU l E mi_X12_putsBack c0 s0 2 [(0, .ref l0), (1, .int l1), (2, .int l2)] [] m o (k2 l0 l1 l2 m o)) (l0 : Nat) (l1 : Int32) (l2 : Int32) (m : Mm) (o : Prop) : Mh wU l E mi_X12_putsBack c0 s0 76 [(0, .ref l0), (1, .int l1), (2, .int l2)] [] m o (f_X12_putsBack_76 k2 l0 l1 l2 m o) := by
  refine Mh_aload_n 0 rfl dX12_putsBack_76 ?_
  refine Mh_gR fd_11_12 fl_RX12_33 dX12_putsBack_77 ?_
  refine Mh_iload_n 2 rfl dX12_putsBack_80 ?_
  refine Mh_aload_n 0 rfl dX12_putsBack_81 ?_
  refine Mh_gR fd_11_56 fl_RX12_124 dX12_putsBack_82 ?_
  refine Mh_bipush (v := 12) dX12_putsBack_85 (by decide) ?_
  refine Mh_iload_n 1 rfl dX12_putsBack_87 ?_
  refine Mh_imul dX12_putsBack_88 ?_
  refine Mh_iload_n 2 rfl dX12_putsBack_89 ?_
  refine Mh_iadd dX12_putsBack_90 ?_
  refine Mh_ial dX12_putsBack_91 ?_
  refine Mh_ias dX12_putsBack_92 ?_
  exact t_X12_putsBack_93 l E c0 s0 k2 hk2 _ _ _ _ _
def f_X12_putsBack_59 (k2 : Nat → Int32 → Int32 → Mm → Prop → Unit × Mm × Prop) (l0 : Nat) (l1 : Int32) (l2 : Int32) (m : Mm) (o : Prop) : Unit × Mm × Prop := f_X12_putsBack_76 k2 l0 l1 l2 (sI m (gR m l0 11) (ix l2) (gI m (gR m l0 55) (ix (((12 : Int32) * l1) + l2)))) ((((o ∧ (gT m l0 = 12 ∧ gR m l0 11 ≠ 0)) ∧ (gT m l0 = 12 ∧ gR m l0 55 ≠ 0)) ∧ (gT m (gR m l0 55) = 20 ∧ vp_in (((12 : Int32) * l1) + l2) (gN m (gR m l0 55)))) ∧ (gT m (gR m l0 11) = 20 ∧ vp_in l2 (gN m (gR m l0 11))))
set_option maxRecDepth 10000 in
theorem t_X12_putsBack_59 (l : Launch) (E : En) (c0 s0 : Nat) (k2 : Nat → Int32 → Int32 → Mm → Prop → Unit × Mm × Prop) (hk2 : ∀ (l0 : Nat) (l1 : Int32) (l2 : Int32) (m : Mm) (o : Prop), Mh wU l E mi_X12_putsBack c0 s0 2 [(0, .ref l0), (1, .int l1), (2, .int l2)] [] m o (k2 l0 l1 l2 m o)) (l0 : Nat) (l1 : Int32) (l2 : Int32) (m : Mm) (o : Prop) : Mh wU l E mi_X12_putsBack c0 s0 59 [(0, .ref l0), (1, .int l1), (2, .int l2)] [] m o (f_X12_putsBack_59 k2 l0 l1 l2 m o) := by
  refine Mh_aload_n 0 rfl dX12_putsBack_59 ?_
  refine Mh_gR fd_11_11 fl_RX12_30 dX12_putsBack_60 ?_
  refine Mh_iload_n 2 rfl dX12_putsBack_63 ?_
  refine Mh_aload_n 0 rfl dX12_putsBack_64 ?_
  refine Mh_gR fd_11_55 fl_RX12_121 dX12_putsBack_65 ?_
  refine Mh_bipush (v := 12) dX12_putsBack_68 (by decide) ?_
  refine Mh_iload_n 1 rfl dX12_putsBack_70 ?_
  refine Mh_imul dX12_putsBack_71 ?_
  refine Mh_iload_n 2 rfl dX12_putsBack_72 ?_
  refine Mh_iadd dX12_putsBack_73 ?_
  refine Mh_ial dX12_putsBack_74 ?_
  refine Mh_ias dX12_putsBack_75 ?_
  exact t_X12_putsBack_76 l E c0 s0 k2 hk2 _ _ _ _ _
def f_X12_putsBack_42 (k2 : Nat → Int32 → Int32 → Mm → Prop → Unit × Mm × Prop) (l0 : Nat) (l1 : Int32) (l2 : Int32) (m : Mm) (o : Prop) : Unit × Mm × Prop := f_X12_putsBack_59 k2 l0 l1 l2 (sI m (gR m l0 10) (ix l2) (gI m (gR m l0 54) (ix (((12 : Int32) * l1) + l2)))) ((((o ∧ (gT m l0 = 12 ∧ gR m l0 10 ≠ 0)) ∧ (gT m l0 = 12 ∧ gR m l0 54 ≠ 0)) ∧ (gT m (gR m l0 54) = 20 ∧ vp_in (((12 : Int32) * l1) + l2) (gN m (gR m l0 54)))) ∧ (gT m (gR m l0 10) = 20 ∧ vp_in l2 (gN m (gR m l0 10))))
set_option maxRecDepth 10000 in
theorem t_X12_putsBack_42 (l : Launch) (E : En) (c0 s0 : Nat) (k2 : Nat → Int32 → Int32 → Mm → Prop → Unit × Mm × Prop) (hk2 : ∀ (l0 : Nat) (l1 : Int32) (l2 : Int32) (m : Mm) (o : Prop), Mh wU l E mi_X12_putsBack c0 s0 2 [(0, .ref l0), (1, .int l1), (2, .int l2)] [] m o (k2 l0 l1 l2 m o)) (l0 : Nat) (l1 : Int32) (l2 : Int32) (m : Mm) (o : Prop) : Mh wU l E mi_X12_putsBack c0 s0 42 [(0, .ref l0), (1, .int l1), (2, .int l2)] [] m o (f_X12_putsBack_42 k2 l0 l1 l2 m o) := by
  refine Mh_aload_n 0 rfl dX12_putsBack_42 ?_
  refine Mh_gR fd_11_10 fl_RX12_27 dX12_putsBack_43 ?_
  refine Mh_iload_n 2 rfl dX12_putsBack_46 ?_
  refine Mh_aload_n 0 rfl dX12_putsBack_47 ?_
  refine Mh_gR fd_11_54 fl_RX12_118 dX12_putsBack_48 ?_
  refine Mh_bipush (v := 12) dX12_putsBack_51 (by decide) ?_
  refine Mh_iload_n 1 rfl dX12_putsBack_53 ?_
  refine Mh_imul dX12_putsBack_54 ?_
  refine Mh_iload_n 2 rfl dX12_putsBack_55 ?_
  refine Mh_iadd dX12_putsBack_56 ?_
  refine Mh_ial dX12_putsBack_57 ?_
  refine Mh_ias dX12_putsBack_58 ?_
  exact t_X12_putsBack_59 l E c0 s0 k2 hk2 _ _ _ _ _
def f_X12_putsBack_25 (k2 : Nat → Int32 → Int32 → Mm → Prop → Unit × Mm × Prop) (l0 : Nat) (l1 : Int32) (l2 : Int32) (m : Mm) (o : Prop) : Unit × Mm × Prop := f_X12_putsBack_42 k2 l0 l1 l2 (sI m (gR m l0 9) (ix l2) (gI m (gR m l0 53) (ix (((12 : Int32) * l1) + l2)))) ((((o ∧ (gT m l0 = 12 ∧ gR m l0 9 ≠ 0)) ∧ (gT m l0 = 12 ∧ gR m l0 53 ≠ 0)) ∧ (gT m (gR m l0 53) = 20 ∧ vp_in (((12 : Int32) * l1) + l2) (gN m (gR m l0 53)))) ∧ (gT m (gR m l0 9) = 20 ∧ vp_in l2 (gN m (gR m l0 9))))
set_option maxRecDepth 10000 in
theorem t_X12_putsBack_25 (l : Launch) (E : En) (c0 s0 : Nat) (k2 : Nat → Int32 → Int32 → Mm → Prop → Unit × Mm × Prop) (hk2 : ∀ (l0 : Nat) (l1 : Int32) (l2 : Int32) (m : Mm) (o : Prop), Mh wU l E mi_X12_putsBack c0 s0 2 [(0, .ref l0), (1, .int l1), (2, .int l2)] [] m o (k2 l0 l1 l2 m o)) (l0 : Nat) (l1 : Int32) (l2 : Int32) (m : Mm) (o : Prop) : Mh wU l E mi_X12_putsBack c0 s0 25 [(0, .ref l0), (1, .int l1), (2, .int l2)] [] m o (f_X12_putsBack_25 k2 l0 l1 l2 m o) := by
  refine Mh_aload_n 0 rfl dX12_putsBack_25 ?_
  refine Mh_gR fd_11_9 fl_RX12_24 dX12_putsBack_26 ?_
  refine Mh_iload_n 2 rfl dX12_putsBack_29 ?_
  refine Mh_aload_n 0 rfl dX12_putsBack_30 ?_
  refine Mh_gR fd_11_53 fl_RX12_115 dX12_putsBack_31 ?_
  refine Mh_bipush (v := 12) dX12_putsBack_34 (by decide) ?_
  refine Mh_iload_n 1 rfl dX12_putsBack_36 ?_
  refine Mh_imul dX12_putsBack_37 ?_
  refine Mh_iload_n 2 rfl dX12_putsBack_38 ?_
  refine Mh_iadd dX12_putsBack_39 ?_
  refine Mh_ial dX12_putsBack_40 ?_
  refine Mh_ias dX12_putsBack_41 ?_
  exact t_X12_putsBack_42 l E c0 s0 k2 hk2 _ _ _ _ _
def f_X12_putsBack_209 (k135 : Nat → Int32 → Int32 → Mm → Prop → Unit × Mm × Prop) (l0 : Nat) (l1 : Int32) (l2 : Int32) (m : Mm) (o : Prop) : Unit × Mm × Prop := k135 l0 l1 (l2 + 1) m o
set_option maxRecDepth 10000 in
theorem t_X12_putsBack_209 (l : Launch) (E : En) (c0 s0 : Nat) (k135 : Nat → Int32 → Int32 → Mm → Prop → Unit × Mm × Prop) (hk135 : ∀ (l0 : Nat) (l1 : Int32) (l2 : Int32) (m : Mm) (o : Prop), Mh wU l E mi_X12_putsBack c0 s0 135 [(0, .ref l0), (1, .int l1), (2, .int l2)] [] m o (k135 l0 l1 l2 m o)) (l0 : Nat) (l1 : Int32) (l2 : Int32) (m : Mm) (o : Prop) : Mh wU l E mi_X12_putsBack c0 s0 209 [(0, .ref l0), (1, .int l1), (2, .int l2)] [] m o (f_X12_putsBack_209 k135 l0 l1 l2 m o) := by
  refine Mh_iinc (v := l2 + 1) (lv' := [(2, .int (l2 + 1)), (0, .ref l0), (1, .int l1)]) 2 dX12_putsBack_209 rfl rfl (Nat.le_of_ble_eq_true rfl) rfl ?_
  refine Mh_goto (tgt := 135) dX12_putsBack_212 (by decide) ?_
  refine Mh_sub (lv' := [(0, .ref l0), (1, .int l1), (2, .int (l2 + 1))]) [1, 2, 0] rfl ?_
  exact hk135 _ _ _ _ _
def f_X12_putsBack_192 (k135 : Nat → Int32 → Int32 → Mm → Prop → Unit × Mm × Prop) (l0 : Nat) (l1 : Int32) (l2 : Int32) (m : Mm) (o : Prop) : Unit × Mm × Prop := f_X12_putsBack_209 k135 l0 l1 l2 (sI m (gR m l0 18) (ix l2) (gI m (gR m l0 62) (ix (((16 : Int32) * l1) + l2)))) ((((o ∧ (gT m l0 = 12 ∧ gR m l0 18 ≠ 0)) ∧ (gT m l0 = 12 ∧ gR m l0 62 ≠ 0)) ∧ (gT m (gR m l0 62) = 20 ∧ vp_in (((16 : Int32) * l1) + l2) (gN m (gR m l0 62)))) ∧ (gT m (gR m l0 18) = 20 ∧ vp_in l2 (gN m (gR m l0 18))))
set_option maxRecDepth 10000 in
theorem t_X12_putsBack_192 (l : Launch) (E : En) (c0 s0 : Nat) (k135 : Nat → Int32 → Int32 → Mm → Prop → Unit × Mm × Prop) (hk135 : ∀ (l0 : Nat) (l1 : Int32) (l2 : Int32) (m : Mm) (o : Prop), Mh wU l E mi_X12_putsBack c0 s0 135 [(0, .ref l0), (1, .int l1), (2, .int l2)] [] m o (k135 l0 l1 l2 m o)) (l0 : Nat) (l1 : Int32) (l2 : Int32) (m : Mm) (o : Prop) : Mh wU l E mi_X12_putsBack c0 s0 192 [(0, .ref l0), (1, .int l1), (2, .int l2)] [] m o (f_X12_putsBack_192 k135 l0 l1 l2 m o) := by
  refine Mh_aload_n 0 rfl dX12_putsBack_192 ?_
  refine Mh_gR fd_11_18 fl_RX12_52 dX12_putsBack_193 ?_
  refine Mh_iload_n 2 rfl dX12_putsBack_196 ?_
  refine Mh_aload_n 0 rfl dX12_putsBack_197 ?_
  refine Mh_gR fd_11_62 fl_RX12_142 dX12_putsBack_198 ?_
  refine Mh_bipush (v := 16) dX12_putsBack_201 (by decide) ?_
  refine Mh_iload_n 1 rfl dX12_putsBack_203 ?_
  refine Mh_imul dX12_putsBack_204 ?_
  refine Mh_iload_n 2 rfl dX12_putsBack_205 ?_
  refine Mh_iadd dX12_putsBack_206 ?_
  refine Mh_ial dX12_putsBack_207 ?_
  refine Mh_ias dX12_putsBack_208 ?_
  exact t_X12_putsBack_209 l E c0 s0 k135 hk135 _ _ _ _ _
def f_X12_putsBack_175 (k135 : Nat → Int32 → Int32 → Mm → Prop → Unit × Mm × Prop) (l0 : Nat) (l1 : Int32) (l2 : Int32) (m : Mm) (o : Prop) : Unit × Mm × Prop := f_X12_putsBack_192 k135 l0 l1 l2 (sI m (gR m l0 17) (ix l2) (gI m (gR m l0 61) (ix (((16 : Int32) * l1) + l2)))) ((((o ∧ (gT m l0 = 12 ∧ gR m l0 17 ≠ 0)) ∧ (gT m l0 = 12 ∧ gR m l0 61 ≠ 0)) ∧ (gT m (gR m l0 61) = 20 ∧ vp_in (((16 : Int32) * l1) + l2) (gN m (gR m l0 61)))) ∧ (gT m (gR m l0 17) = 20 ∧ vp_in l2 (gN m (gR m l0 17))))
set_option maxRecDepth 10000 in
theorem t_X12_putsBack_175 (l : Launch) (E : En) (c0 s0 : Nat) (k135 : Nat → Int32 → Int32 → Mm → Prop → Unit × Mm × Prop) (hk135 : ∀ (l0 : Nat) (l1 : Int32) (l2 : Int32) (m : Mm) (o : Prop), Mh wU l E mi_X12_putsBack c0 s0 135 [(0, .ref l0), (1, .int l1), (2, .int l2)] [] m o (k135 l0 l1 l2 m o)) (l0 : Nat) (l1 : Int32) (l2 : Int32) (m : Mm) (o : Prop) : Mh wU l E mi_X12_putsBack c0 s0 175 [(0, .ref l0), (1, .int l1), (2, .int l2)] [] m o (f_X12_putsBack_175 k135 l0 l1 l2 m o) := by
  refine Mh_aload_n 0 rfl dX12_putsBack_175 ?_
  refine Mh_gR fd_11_17 fl_RX12_49 dX12_putsBack_176 ?_
  refine Mh_iload_n 2 rfl dX12_putsBack_179 ?_
  refine Mh_aload_n 0 rfl dX12_putsBack_180 ?_
  refine Mh_gR fd_11_61 fl_RX12_139 dX12_putsBack_181 ?_
  refine Mh_bipush (v := 16) dX12_putsBack_184 (by decide) ?_
  refine Mh_iload_n 1 rfl dX12_putsBack_186 ?_
  refine Mh_imul dX12_putsBack_187 ?_
  refine Mh_iload_n 2 rfl dX12_putsBack_188 ?_
  refine Mh_iadd dX12_putsBack_189 ?_
  refine Mh_ial dX12_putsBack_190 ?_
  refine Mh_ias dX12_putsBack_191 ?_
  exact t_X12_putsBack_192 l E c0 s0 k135 hk135 _ _ _ _ _
def f_X12_putsBack_158 (k135 : Nat → Int32 → Int32 → Mm → Prop → Unit × Mm × Prop) (l0 : Nat) (l1 : Int32) (l2 : Int32) (m : Mm) (o : Prop) : Unit × Mm × Prop := f_X12_putsBack_175 k135 l0 l1 l2 (sI m (gR m l0 16) (ix l2) (gI m (gR m l0 60) (ix (((16 : Int32) * l1) + l2)))) ((((o ∧ (gT m l0 = 12 ∧ gR m l0 16 ≠ 0)) ∧ (gT m l0 = 12 ∧ gR m l0 60 ≠ 0)) ∧ (gT m (gR m l0 60) = 20 ∧ vp_in (((16 : Int32) * l1) + l2) (gN m (gR m l0 60)))) ∧ (gT m (gR m l0 16) = 20 ∧ vp_in l2 (gN m (gR m l0 16))))
set_option maxRecDepth 10000 in
theorem t_X12_putsBack_158 (l : Launch) (E : En) (c0 s0 : Nat) (k135 : Nat → Int32 → Int32 → Mm → Prop → Unit × Mm × Prop) (hk135 : ∀ (l0 : Nat) (l1 : Int32) (l2 : Int32) (m : Mm) (o : Prop), Mh wU l E mi_X12_putsBack c0 s0 135 [(0, .ref l0), (1, .int l1), (2, .int l2)] [] m o (k135 l0 l1 l2 m o)) (l0 : Nat) (l1 : Int32) (l2 : Int32) (m : Mm) (o : Prop) : Mh wU l E mi_X12_putsBack c0 s0 158 [(0, .ref l0), (1, .int l1), (2, .int l2)] [] m o (f_X12_putsBack_158 k135 l0 l1 l2 m o) := by
  refine Mh_aload_n 0 rfl dX12_putsBack_158 ?_
  refine Mh_gR fd_11_16 fl_RX12_46 dX12_putsBack_159 ?_
  refine Mh_iload_n 2 rfl dX12_putsBack_162 ?_
  refine Mh_aload_n 0 rfl dX12_putsBack_163 ?_
  refine Mh_gR fd_11_60 fl_RX12_136 dX12_putsBack_164 ?_
  refine Mh_bipush (v := 16) dX12_putsBack_167 (by decide) ?_
  refine Mh_iload_n 1 rfl dX12_putsBack_169 ?_
  refine Mh_imul dX12_putsBack_170 ?_
  refine Mh_iload_n 2 rfl dX12_putsBack_171 ?_
  refine Mh_iadd dX12_putsBack_172 ?_
  refine Mh_ial dX12_putsBack_173 ?_
  refine Mh_ias dX12_putsBack_174 ?_
  exact t_X12_putsBack_175 l E c0 s0 k135 hk135 _ _ _ _ _
def f_X12_putsBack_240 (k217 : Nat → Int32 → Int32 → Mm → Prop → Unit × Mm × Prop) (l0 : Nat) (l1 : Int32) (l2 : Int32) (m : Mm) (o : Prop) : Unit × Mm × Prop := k217 l0 l1 (l2 + 1) m o
set_option maxRecDepth 10000 in
theorem t_X12_putsBack_240 (l : Launch) (E : En) (c0 s0 : Nat) (k217 : Nat → Int32 → Int32 → Mm → Prop → Unit × Mm × Prop) (hk217 : ∀ (l0 : Nat) (l1 : Int32) (l2 : Int32) (m : Mm) (o : Prop), Mh wU l E mi_X12_putsBack c0 s0 217 [(0, .ref l0), (1, .int l1), (2, .int l2)] [] m o (k217 l0 l1 l2 m o)) (l0 : Nat) (l1 : Int32) (l2 : Int32) (m : Mm) (o : Prop) : Mh wU l E mi_X12_putsBack c0 s0 240 [(0, .ref l0), (1, .int l1), (2, .int l2)] [] m o (f_X12_putsBack_240 k217 l0 l1 l2 m o) := by
  refine Mh_iinc (v := l2 + 1) (lv' := [(2, .int (l2 + 1)), (0, .ref l0), (1, .int l1)]) 2 dX12_putsBack_240 rfl rfl (Nat.le_of_ble_eq_true rfl) rfl ?_
  refine Mh_goto (tgt := 217) dX12_putsBack_243 (by decide) ?_
  refine Mh_sub (lv' := [(0, .ref l0), (1, .int l1), (2, .int (l2 + 1))]) [1, 2, 0] rfl ?_
  exact hk217 _ _ _ _ _
def f_X12_putsBack_269 (k248 : Nat → Int32 → Int32 → Mm → Prop → Unit × Mm × Prop) (l0 : Nat) (l1 : Int32) (l2 : Int32) (m : Mm) (o : Prop) : Unit × Mm × Prop := k248 l0 l1 (l2 + 1) m o
set_option maxRecDepth 10000 in
theorem t_X12_putsBack_269 (l : Launch) (E : En) (c0 s0 : Nat) (k248 : Nat → Int32 → Int32 → Mm → Prop → Unit × Mm × Prop) (hk248 : ∀ (l0 : Nat) (l1 : Int32) (l2 : Int32) (m : Mm) (o : Prop), Mh wU l E mi_X12_putsBack c0 s0 248 [(0, .ref l0), (1, .int l1), (2, .int l2)] [] m o (k248 l0 l1 l2 m o)) (l0 : Nat) (l1 : Int32) (l2 : Int32) (m : Mm) (o : Prop) : Mh wU l E mi_X12_putsBack c0 s0 269 [(0, .ref l0), (1, .int l1), (2, .int l2)] [] m o (f_X12_putsBack_269 k248 l0 l1 l2 m o) := by
  refine Mh_iinc (v := l2 + 1) (lv' := [(2, .int (l2 + 1)), (0, .ref l0), (1, .int l1)]) 2 dX12_putsBack_269 rfl rfl (Nat.le_of_ble_eq_true rfl) rfl ?_
  refine Mh_goto (tgt := 248) dX12_putsBack_272 (by decide) ?_
  refine Mh_sub (lv' := [(0, .ref l0), (1, .int l1), (2, .int (l2 + 1))]) [1, 2, 0] rfl ?_
  exact hk248 _ _ _ _ _
def f_X12_putsBack_302 (k277 : Nat → Int32 → Int32 → Mm → Prop → Unit × Mm × Prop) (l0 : Nat) (l1 : Int32) (l2 : Int32) (m : Mm) (o : Prop) : Unit × Mm × Prop := k277 l0 l1 (l2 + 1) m o
set_option maxRecDepth 10000 in
theorem t_X12_putsBack_302 (l : Launch) (E : En) (c0 s0 : Nat) (k277 : Nat → Int32 → Int32 → Mm → Prop → Unit × Mm × Prop) (hk277 : ∀ (l0 : Nat) (l1 : Int32) (l2 : Int32) (m : Mm) (o : Prop), Mh wU l E mi_X12_putsBack c0 s0 277 [(0, .ref l0), (1, .int l1), (2, .int l2)] [] m o (k277 l0 l1 l2 m o)) (l0 : Nat) (l1 : Int32) (l2 : Int32) (m : Mm) (o : Prop) : Mh wU l E mi_X12_putsBack c0 s0 302 [(0, .ref l0), (1, .int l1), (2, .int l2)] [] m o (f_X12_putsBack_302 k277 l0 l1 l2 m o) := by
  refine Mh_iinc (v := l2 + 1) (lv' := [(2, .int (l2 + 1)), (0, .ref l0), (1, .int l1)]) 2 dX12_putsBack_302 rfl rfl (Nat.le_of_ble_eq_true rfl) rfl ?_
  refine Mh_goto (tgt := 277) dX12_putsBack_305 (by decide) ?_
  refine Mh_sub (lv' := [(0, .ref l0), (1, .int l1), (2, .int (l2 + 1))]) [1, 2, 0] rfl ?_
  exact hk277 _ _ _ _ _
def f_X12_putsBack_396 (m : Mm) (o : Prop) : Unit × Mm × Prop := ((), m, o)
set_option maxRecDepth 10000 in
theorem t_X12_putsBack_396 (l : Launch) (E : En) (c0 s0 : Nat) (m : Mm) (o : Prop) : Mh wU l E mi_X12_putsBack c0 s0 396 [] [] m o (f_X12_putsBack_396  m o) := by
  exact Mh_ret dX12_putsBack_396 rfl (fun _ => trivial) rfl
def f_X12_putsBack_381 (l0 : Nat) (l1 : Int32) (m : Mm) (o : Prop) : Unit × Mm × Prop := f_X12_putsBack_396  (sI m l0 5 (gI m (gR m l0 66) (ix (((6 : Int32) * l1) + (5 : Int32))))) (((o ∧ (gT m l0 = 12 ∧ gR m l0 66 ≠ 0)) ∧ (gT m (gR m l0 66) = 20 ∧ vp_in (((6 : Int32) * l1) + (5 : Int32)) (gN m (gR m l0 66)))) ∧ gT m l0 = 12)
set_option maxRecDepth 10000 in
theorem t_X12_putsBack_381 (l : Launch) (E : En) (c0 s0 : Nat) (l0 : Nat) (l1 : Int32) (m : Mm) (o : Prop) : Mh wU l E mi_X12_putsBack c0 s0 381 [(0, .ref l0), (1, .int l1)] [] m o (f_X12_putsBack_381 l0 l1 m o) := by
  refine Mh_aload_n 0 rfl dX12_putsBack_381 ?_
  refine Mh_aload_n 0 rfl dX12_putsBack_382 ?_
  refine Mh_gR fd_11_66 fl_RX12_154 dX12_putsBack_383 ?_
  refine Mh_bipush (v := 6) dX12_putsBack_386 (by decide) ?_
  refine Mh_iload_n 1 rfl dX12_putsBack_388 ?_
  refine Mh_imul dX12_putsBack_389 ?_
  refine Mh_iconst (v := 5) dX12_putsBack_390 (by decide) ?_
  refine Mh_iadd dX12_putsBack_391 ?_
  refine Mh_ial dX12_putsBack_392 ?_
  refine Mh_pI fd_11_5 ft_11 rfl fl_RX12_13 rfl dX12_putsBack_393 ?_
  refine Mh_sub (lv' := []) [] rfl ?_
  exact t_X12_putsBack_396 l E c0 s0  _ _
def f_X12_putsBack_366 (l0 : Nat) (l1 : Int32) (m : Mm) (o : Prop) : Unit × Mm × Prop := f_X12_putsBack_381 l0 l1 (sI m l0 7 (gI m (gR m l0 66) (ix (((6 : Int32) * l1) + (4 : Int32))))) (((o ∧ (gT m l0 = 12 ∧ gR m l0 66 ≠ 0)) ∧ (gT m (gR m l0 66) = 20 ∧ vp_in (((6 : Int32) * l1) + (4 : Int32)) (gN m (gR m l0 66)))) ∧ gT m l0 = 12)
set_option maxRecDepth 10000 in
theorem t_X12_putsBack_366 (l : Launch) (E : En) (c0 s0 : Nat) (l0 : Nat) (l1 : Int32) (m : Mm) (o : Prop) : Mh wU l E mi_X12_putsBack c0 s0 366 [(0, .ref l0), (1, .int l1)] [] m o (f_X12_putsBack_366 l0 l1 m o) := by
  refine Mh_aload_n 0 rfl dX12_putsBack_366 ?_
  refine Mh_aload_n 0 rfl dX12_putsBack_367 ?_
  refine Mh_gR fd_11_66 fl_RX12_154 dX12_putsBack_368 ?_
  refine Mh_bipush (v := 6) dX12_putsBack_371 (by decide) ?_
  refine Mh_iload_n 1 rfl dX12_putsBack_373 ?_
  refine Mh_imul dX12_putsBack_374 ?_
  refine Mh_iconst (v := 4) dX12_putsBack_375 (by decide) ?_
  refine Mh_iadd dX12_putsBack_376 ?_
  refine Mh_ial dX12_putsBack_377 ?_
  refine Mh_pI fd_11_7 ft_11 rfl fl_RX12_225 rfl dX12_putsBack_378 ?_
  exact t_X12_putsBack_381 l E c0 s0 _ _ _ _
def f_X12_putsBack_351 (l0 : Nat) (l1 : Int32) (m : Mm) (o : Prop) : Unit × Mm × Prop := f_X12_putsBack_366 l0 l1 (sI m l0 6 (gI m (gR m l0 66) (ix (((6 : Int32) * l1) + (3 : Int32))))) (((o ∧ (gT m l0 = 12 ∧ gR m l0 66 ≠ 0)) ∧ (gT m (gR m l0 66) = 20 ∧ vp_in (((6 : Int32) * l1) + (3 : Int32)) (gN m (gR m l0 66)))) ∧ gT m l0 = 12)
set_option maxRecDepth 10000 in
theorem t_X12_putsBack_351 (l : Launch) (E : En) (c0 s0 : Nat) (l0 : Nat) (l1 : Int32) (m : Mm) (o : Prop) : Mh wU l E mi_X12_putsBack c0 s0 351 [(0, .ref l0), (1, .int l1)] [] m o (f_X12_putsBack_351 l0 l1 m o) := by
  refine Mh_aload_n 0 rfl dX12_putsBack_351 ?_
  refine Mh_aload_n 0 rfl dX12_putsBack_352 ?_
  refine Mh_gR fd_11_66 fl_RX12_154 dX12_putsBack_353 ?_
  refine Mh_bipush (v := 6) dX12_putsBack_356 (by decide) ?_
  refine Mh_iload_n 1 rfl dX12_putsBack_358 ?_
  refine Mh_imul dX12_putsBack_359 ?_
  refine Mh_iconst (v := 3) dX12_putsBack_360 (by decide) ?_
  refine Mh_iadd dX12_putsBack_361 ?_
  refine Mh_ial dX12_putsBack_362 ?_
  refine Mh_pI fd_11_6 ft_11 rfl fl_RX12_17 rfl dX12_putsBack_363 ?_
  exact t_X12_putsBack_366 l E c0 s0 _ _ _ _
def f_X12_putsBack_336 (l0 : Nat) (l1 : Int32) (m : Mm) (o : Prop) : Unit × Mm × Prop := f_X12_putsBack_351 l0 l1 (sI m l0 4 (gI m (gR m l0 66) (ix (((6 : Int32) * l1) + (2 : Int32))))) (((o ∧ (gT m l0 = 12 ∧ gR m l0 66 ≠ 0)) ∧ (gT m (gR m l0 66) = 20 ∧ vp_in (((6 : Int32) * l1) + (2 : Int32)) (gN m (gR m l0 66)))) ∧ gT m l0 = 12)
set_option maxRecDepth 10000 in
theorem t_X12_putsBack_336 (l : Launch) (E : En) (c0 s0 : Nat) (l0 : Nat) (l1 : Int32) (m : Mm) (o : Prop) : Mh wU l E mi_X12_putsBack c0 s0 336 [(0, .ref l0), (1, .int l1)] [] m o (f_X12_putsBack_336 l0 l1 m o) := by
  refine Mh_aload_n 0 rfl dX12_putsBack_336 ?_
  refine Mh_aload_n 0 rfl dX12_putsBack_337 ?_
  refine Mh_gR fd_11_66 fl_RX12_154 dX12_putsBack_338 ?_
  refine Mh_bipush (v := 6) dX12_putsBack_341 (by decide) ?_
  refine Mh_iload_n 1 rfl dX12_putsBack_343 ?_
  refine Mh_imul dX12_putsBack_344 ?_
  refine Mh_iconst (v := 2) dX12_putsBack_345 (by decide) ?_
  refine Mh_iadd dX12_putsBack_346 ?_
  refine Mh_ial dX12_putsBack_347 ?_
  refine Mh_pI fd_11_4 ft_11 rfl fl_RX12_359 rfl dX12_putsBack_348 ?_
  exact t_X12_putsBack_351 l E c0 s0 _ _ _ _
def f_X12_putsBack_321 (l0 : Nat) (l1 : Int32) (m : Mm) (o : Prop) : Unit × Mm × Prop := f_X12_putsBack_336 l0 l1 (sI m l0 3 (gI m (gR m l0 66) (ix (((6 : Int32) * l1) + (1 : Int32))))) (((o ∧ (gT m l0 = 12 ∧ gR m l0 66 ≠ 0)) ∧ (gT m (gR m l0 66) = 20 ∧ vp_in (((6 : Int32) * l1) + (1 : Int32)) (gN m (gR m l0 66)))) ∧ gT m l0 = 12)
set_option maxRecDepth 10000 in
theorem t_X12_putsBack_321 (l : Launch) (E : En) (c0 s0 : Nat) (l0 : Nat) (l1 : Int32) (m : Mm) (o : Prop) : Mh wU l E mi_X12_putsBack c0 s0 321 [(0, .ref l0), (1, .int l1)] [] m o (f_X12_putsBack_321 l0 l1 m o) := by
  refine Mh_aload_n 0 rfl dX12_putsBack_321 ?_
  refine Mh_aload_n 0 rfl dX12_putsBack_322 ?_
  refine Mh_gR fd_11_66 fl_RX12_154 dX12_putsBack_323 ?_
  refine Mh_bipush (v := 6) dX12_putsBack_326 (by decide) ?_
  refine Mh_iload_n 1 rfl dX12_putsBack_328 ?_
  refine Mh_imul dX12_putsBack_329 ?_
  refine Mh_iconst (v := 1) dX12_putsBack_330 (by decide) ?_
  refine Mh_iadd dX12_putsBack_331 ?_
  refine Mh_ial dX12_putsBack_332 ?_
  refine Mh_pI fd_11_3 ft_11 rfl fl_RX12_199 rfl dX12_putsBack_333 ?_
  exact t_X12_putsBack_336 l E c0 s0 _ _ _ _
def f_X12_putsBack_277b (k277 : Nat → Int32 → Int32 → Mm → Prop → Unit × Mm × Prop) (l0 : Nat) (l1 : Int32) (l2 : Int32) (m : Mm) (o : Prop) : Unit × Mm × Prop := if (192 : Int32) ≤ l2 then (f_X12_putsBack_321 l0 l1 (sI m l0 2 (gI m (gR m l0 66) (ix ((6 : Int32) * l1)))) (((o ∧ (gT m l0 = 12 ∧ gR m l0 66 ≠ 0)) ∧ (gT m (gR m l0 66) = 20 ∧ vp_in ((6 : Int32) * l1) (gN m (gR m l0 66)))) ∧ gT m l0 = 12)) else (f_X12_putsBack_302 k277 l0 l1 l2 (sI m (gR m l0 21) (ix l2) (gI m (gR m l0 65) (ix (((192 : Int32) * l1) + l2)))) ((((o ∧ (gT m l0 = 12 ∧ gR m l0 21 ≠ 0)) ∧ (gT m l0 = 12 ∧ gR m l0 65 ≠ 0)) ∧ (gT m (gR m l0 65) = 20 ∧ vp_in (((192 : Int32) * l1) + l2) (gN m (gR m l0 65)))) ∧ (gT m (gR m l0 21) = 20 ∧ vp_in l2 (gN m (gR m l0 21)))))
set_option maxRecDepth 10000 in
theorem t_X12_putsBack_277b (l : Launch) (E : En) (c0 s0 : Nat) (k277 : Nat → Int32 → Int32 → Mm → Prop → Unit × Mm × Prop) (hk277 : ∀ (l0 : Nat) (l1 : Int32) (l2 : Int32) (m : Mm) (o : Prop), Mh wU l E mi_X12_putsBack c0 s0 277 [(0, .ref l0), (1, .int l1), (2, .int l2)] [] m o (k277 l0 l1 l2 m o)) (l0 : Nat) (l1 : Int32) (l2 : Int32) (m : Mm) (o : Prop) : Mh wU l E mi_X12_putsBack c0 s0 277 [(0, .ref l0), (1, .int l1), (2, .int l2)] [] m o (f_X12_putsBack_277b k277 l0 l1 l2 m o) := by
  refine Mh_iload_n 2 rfl dX12_putsBack_277 ?_
  refine Mh_sipush (v := 192) dX12_putsBack_278 (by decide) ?_
  refine Mh_icmp_ge (tgt := 308) dX12_putsBack_281 (by decide) rfl (fun _ => ?_) (fun _ => ?_)
  · refine Mh_aload_n 0 rfl dX12_putsBack_308 ?_
    refine Mh_aload_n 0 rfl dX12_putsBack_309 ?_
    refine Mh_gR fd_11_66 fl_RX12_154 dX12_putsBack_310 ?_
    refine Mh_bipush (v := 6) dX12_putsBack_313 (by decide) ?_
    refine Mh_iload_n 1 rfl dX12_putsBack_315 ?_
    refine Mh_imul dX12_putsBack_316 ?_
    refine Mh_ial dX12_putsBack_317 ?_
    refine Mh_pI fd_11_2 ft_11 rfl fl_RX12_192 rfl dX12_putsBack_318 ?_
    refine Mh_sub (lv' := [(0, .ref l0), (1, .int l1)]) [0, 1] rfl ?_
    exact t_X12_putsBack_321 l E c0 s0 _ _ _ _
  · refine Mh_aload_n 0 rfl dX12_putsBack_284 ?_
    refine Mh_gR fd_11_21 fl_RX12_61 dX12_putsBack_285 ?_
    refine Mh_iload_n 2 rfl dX12_putsBack_288 ?_
    refine Mh_aload_n 0 rfl dX12_putsBack_289 ?_
    refine Mh_gR fd_11_65 fl_RX12_151 dX12_putsBack_290 ?_
    refine Mh_sipush (v := 192) dX12_putsBack_293 (by decide) ?_
    refine Mh_iload_n 1 rfl dX12_putsBack_296 ?_
    refine Mh_imul dX12_putsBack_297 ?_
    refine Mh_iload_n 2 rfl dX12_putsBack_298 ?_
    refine Mh_iadd dX12_putsBack_299 ?_
    refine Mh_ial dX12_putsBack_300 ?_
    refine Mh_ias dX12_putsBack_301 ?_
    exact t_X12_putsBack_302 l E c0 s0 k277 hk277 _ _ _ _ _
def f_X12_putsBack_277 : Nat → Nat → Int32 → Int32 → Mm → Prop → Unit × Mm × Prop
  | 0, _, _, _, m, _ => ((), m, False)
  | n + 1, l0, l1, l2, m, o => f_X12_putsBack_277b (f_X12_putsBack_277 n) l0 l1 l2 m o
theorem t_X12_putsBack_277 (l : Launch) (E : En) (c0 s0 : Nat) : ∀ (n : Nat) (l0 : Nat) (l1 : Int32) (l2 : Int32) (m : Mm) (o : Prop), Mh wU l E mi_X12_putsBack c0 s0 277 [(0, .ref l0), (1, .int l1), (2, .int l2)] [] m o (f_X12_putsBack_277 n l0 l1 l2 m o)
  | 0, _, _, _, _, _ => Mh_out rfl
  | n + 1, l0, l1, l2, m, o => t_X12_putsBack_277b l E c0 s0 (f_X12_putsBack_277 n) (t_X12_putsBack_277 l E c0 s0 n) l0 l1 l2 m o
def f_X12_putsBack_248b (k248 : Nat → Int32 → Int32 → Mm → Prop → Unit × Mm × Prop) (l0 : Nat) (l1 : Int32) (l2 : Int32) (m : Mm) (o : Prop) : Unit × Mm × Prop := if (5 : Int32) ≤ l2 then (f_X12_putsBack_277 1000 l0 l1 (0 : Int32) m o) else (f_X12_putsBack_269 k248 l0 l1 l2 (sI m (gR m l0 20) (ix l2) (gI m (gR m l0 64) (ix (((5 : Int32) * l1) + l2)))) ((((o ∧ (gT m l0 = 12 ∧ gR m l0 20 ≠ 0)) ∧ (gT m l0 = 12 ∧ gR m l0 64 ≠ 0)) ∧ (gT m (gR m l0 64) = 20 ∧ vp_in (((5 : Int32) * l1) + l2) (gN m (gR m l0 64)))) ∧ (gT m (gR m l0 20) = 20 ∧ vp_in l2 (gN m (gR m l0 20)))))
set_option maxRecDepth 10000 in
theorem t_X12_putsBack_248b (l : Launch) (E : En) (c0 s0 : Nat) (k248 : Nat → Int32 → Int32 → Mm → Prop → Unit × Mm × Prop) (hk248 : ∀ (l0 : Nat) (l1 : Int32) (l2 : Int32) (m : Mm) (o : Prop), Mh wU l E mi_X12_putsBack c0 s0 248 [(0, .ref l0), (1, .int l1), (2, .int l2)] [] m o (k248 l0 l1 l2 m o)) (l0 : Nat) (l1 : Int32) (l2 : Int32) (m : Mm) (o : Prop) : Mh wU l E mi_X12_putsBack c0 s0 248 [(0, .ref l0), (1, .int l1), (2, .int l2)] [] m o (f_X12_putsBack_248b k248 l0 l1 l2 m o) := by
  refine Mh_iload_n 2 rfl dX12_putsBack_248 ?_
  refine Mh_iconst (v := 5) dX12_putsBack_249 (by decide) ?_
  refine Mh_icmp_ge (tgt := 275) dX12_putsBack_250 (by decide) rfl (fun _ => ?_) (fun _ => ?_)
  · refine Mh_iconst (v := 0) dX12_putsBack_275 (by decide) ?_
    refine Mh_istore_n (lv' := [(2, .int (0 : Int32)), (0, .ref l0), (1, .int l1)]) dX12_putsBack_276 (Nat.le_of_ble_eq_true rfl) rfl ?_
    refine Mh_sub (lv' := [(0, .ref l0), (1, .int l1), (2, .int (0 : Int32))]) [1, 2, 0] rfl ?_
    exact t_X12_putsBack_277 l E c0 s0 _ _ _ _ _ _
  · refine Mh_aload_n 0 rfl dX12_putsBack_253 ?_
    refine Mh_gR fd_11_20 fl_RX12_58 dX12_putsBack_254 ?_
    refine Mh_iload_n 2 rfl dX12_putsBack_257 ?_
    refine Mh_aload_n 0 rfl dX12_putsBack_258 ?_
    refine Mh_gR fd_11_64 fl_RX12_148 dX12_putsBack_259 ?_
    refine Mh_iconst (v := 5) dX12_putsBack_262 (by decide) ?_
    refine Mh_iload_n 1 rfl dX12_putsBack_263 ?_
    refine Mh_imul dX12_putsBack_264 ?_
    refine Mh_iload_n 2 rfl dX12_putsBack_265 ?_
    refine Mh_iadd dX12_putsBack_266 ?_
    refine Mh_ial dX12_putsBack_267 ?_
    refine Mh_ias dX12_putsBack_268 ?_
    exact t_X12_putsBack_269 l E c0 s0 k248 hk248 _ _ _ _ _
def f_X12_putsBack_248 : Nat → Nat → Int32 → Int32 → Mm → Prop → Unit × Mm × Prop
  | 0, _, _, _, m, _ => ((), m, False)
  | n + 1, l0, l1, l2, m, o => f_X12_putsBack_248b (f_X12_putsBack_248 n) l0 l1 l2 m o
theorem t_X12_putsBack_248 (l : Launch) (E : En) (c0 s0 : Nat) : ∀ (n : Nat) (l0 : Nat) (l1 : Int32) (l2 : Int32) (m : Mm) (o : Prop), Mh wU l E mi_X12_putsBack c0 s0 248 [(0, .ref l0), (1, .int l1), (2, .int l2)] [] m o (f_X12_putsBack_248 n l0 l1 l2 m o)
  | 0, _, _, _, _, _ => Mh_out rfl
  | n + 1, l0, l1, l2, m, o => t_X12_putsBack_248b l E c0 s0 (f_X12_putsBack_248 n) (t_X12_putsBack_248 l E c0 s0 n) l0 l1 l2 m o
def f_X12_putsBack_217b (k217 : Nat → Int32 → Int32 → Mm → Prop → Unit × Mm × Prop) (l0 : Nat) (l1 : Int32) (l2 : Int32) (m : Mm) (o : Prop) : Unit × Mm × Prop := if (80 : Int32) ≤ l2 then (f_X12_putsBack_248 1000 l0 l1 (0 : Int32) m o) else (f_X12_putsBack_240 k217 l0 l1 l2 (sI m (gR m l0 19) (ix l2) (gI m (gR m l0 63) (ix (((80 : Int32) * l1) + l2)))) ((((o ∧ (gT m l0 = 12 ∧ gR m l0 19 ≠ 0)) ∧ (gT m l0 = 12 ∧ gR m l0 63 ≠ 0)) ∧ (gT m (gR m l0 63) = 20 ∧ vp_in (((80 : Int32) * l1) + l2) (gN m (gR m l0 63)))) ∧ (gT m (gR m l0 19) = 20 ∧ vp_in l2 (gN m (gR m l0 19)))))
set_option maxRecDepth 10000 in
theorem t_X12_putsBack_217b (l : Launch) (E : En) (c0 s0 : Nat) (k217 : Nat → Int32 → Int32 → Mm → Prop → Unit × Mm × Prop) (hk217 : ∀ (l0 : Nat) (l1 : Int32) (l2 : Int32) (m : Mm) (o : Prop), Mh wU l E mi_X12_putsBack c0 s0 217 [(0, .ref l0), (1, .int l1), (2, .int l2)] [] m o (k217 l0 l1 l2 m o)) (l0 : Nat) (l1 : Int32) (l2 : Int32) (m : Mm) (o : Prop) : Mh wU l E mi_X12_putsBack c0 s0 217 [(0, .ref l0), (1, .int l1), (2, .int l2)] [] m o (f_X12_putsBack_217b k217 l0 l1 l2 m o) := by
  refine Mh_iload_n 2 rfl dX12_putsBack_217 ?_
  refine Mh_bipush (v := 80) dX12_putsBack_218 (by decide) ?_
  refine Mh_icmp_ge (tgt := 246) dX12_putsBack_220 (by decide) rfl (fun _ => ?_) (fun _ => ?_)
  · refine Mh_iconst (v := 0) dX12_putsBack_246 (by decide) ?_
    refine Mh_istore_n (lv' := [(2, .int (0 : Int32)), (0, .ref l0), (1, .int l1)]) dX12_putsBack_247 (Nat.le_of_ble_eq_true rfl) rfl ?_
    refine Mh_sub (lv' := [(0, .ref l0), (1, .int l1), (2, .int (0 : Int32))]) [1, 2, 0] rfl ?_
    exact t_X12_putsBack_248 l E c0 s0 _ _ _ _ _ _
  · refine Mh_aload_n 0 rfl dX12_putsBack_223 ?_
    refine Mh_gR fd_11_19 fl_RX12_55 dX12_putsBack_224 ?_
    refine Mh_iload_n 2 rfl dX12_putsBack_227 ?_
    refine Mh_aload_n 0 rfl dX12_putsBack_228 ?_
    refine Mh_gR fd_11_63 fl_RX12_145 dX12_putsBack_229 ?_
    refine Mh_bipush (v := 80) dX12_putsBack_232 (by decide) ?_
    refine Mh_iload_n 1 rfl dX12_putsBack_234 ?_
    refine Mh_imul dX12_putsBack_235 ?_
    refine Mh_iload_n 2 rfl dX12_putsBack_236 ?_
    refine Mh_iadd dX12_putsBack_237 ?_
    refine Mh_ial dX12_putsBack_238 ?_
    refine Mh_ias dX12_putsBack_239 ?_
    exact t_X12_putsBack_240 l E c0 s0 k217 hk217 _ _ _ _ _
def f_X12_putsBack_217 : Nat → Nat → Int32 → Int32 → Mm → Prop → Unit × Mm × Prop
  | 0, _, _, _, m, _ => ((), m, False)
  | n + 1, l0, l1, l2, m, o => f_X12_putsBack_217b (f_X12_putsBack_217 n) l0 l1 l2 m o
theorem t_X12_putsBack_217 (l : Launch) (E : En) (c0 s0 : Nat) : ∀ (n : Nat) (l0 : Nat) (l1 : Int32) (l2 : Int32) (m : Mm) (o : Prop), Mh wU l E mi_X12_putsBack c0 s0 217 [(0, .ref l0), (1, .int l1), (2, .int l2)] [] m o (f_X12_putsBack_217 n l0 l1 l2 m o)
  | 0, _, _, _, _, _ => Mh_out rfl
  | n + 1, l0, l1, l2, m, o => t_X12_putsBack_217b l E c0 s0 (f_X12_putsBack_217 n) (t_X12_putsBack_217 l E c0 s0 n) l0 l1 l2 m o
def f_X12_putsBack_135b (k135 : Nat → Int32 → Int32 → Mm → Prop → Unit × Mm × Prop) (l0 : Nat) (l1 : Int32) (l2 : Int32) (m : Mm) (o : Prop) : Unit × Mm × Prop := if (16 : Int32) ≤ l2 then (f_X12_putsBack_217 1000 l0 l1 (0 : Int32) m o) else (f_X12_putsBack_158 k135 l0 l1 l2 (sI m (gR m l0 15) (ix l2) (gI m (gR m l0 59) (ix (((16 : Int32) * l1) + l2)))) ((((o ∧ (gT m l0 = 12 ∧ gR m l0 15 ≠ 0)) ∧ (gT m l0 = 12 ∧ gR m l0 59 ≠ 0)) ∧ (gT m (gR m l0 59) = 20 ∧ vp_in (((16 : Int32) * l1) + l2) (gN m (gR m l0 59)))) ∧ (gT m (gR m l0 15) = 20 ∧ vp_in l2 (gN m (gR m l0 15)))))
set_option maxRecDepth 10000 in
theorem t_X12_putsBack_135b (l : Launch) (E : En) (c0 s0 : Nat) (k135 : Nat → Int32 → Int32 → Mm → Prop → Unit × Mm × Prop) (hk135 : ∀ (l0 : Nat) (l1 : Int32) (l2 : Int32) (m : Mm) (o : Prop), Mh wU l E mi_X12_putsBack c0 s0 135 [(0, .ref l0), (1, .int l1), (2, .int l2)] [] m o (k135 l0 l1 l2 m o)) (l0 : Nat) (l1 : Int32) (l2 : Int32) (m : Mm) (o : Prop) : Mh wU l E mi_X12_putsBack c0 s0 135 [(0, .ref l0), (1, .int l1), (2, .int l2)] [] m o (f_X12_putsBack_135b k135 l0 l1 l2 m o) := by
  refine Mh_iload_n 2 rfl dX12_putsBack_135 ?_
  refine Mh_bipush (v := 16) dX12_putsBack_136 (by decide) ?_
  refine Mh_icmp_ge (tgt := 215) dX12_putsBack_138 (by decide) rfl (fun _ => ?_) (fun _ => ?_)
  · refine Mh_iconst (v := 0) dX12_putsBack_215 (by decide) ?_
    refine Mh_istore_n (lv' := [(2, .int (0 : Int32)), (0, .ref l0), (1, .int l1)]) dX12_putsBack_216 (Nat.le_of_ble_eq_true rfl) rfl ?_
    refine Mh_sub (lv' := [(0, .ref l0), (1, .int l1), (2, .int (0 : Int32))]) [1, 2, 0] rfl ?_
    exact t_X12_putsBack_217 l E c0 s0 _ _ _ _ _ _
  · refine Mh_aload_n 0 rfl dX12_putsBack_141 ?_
    refine Mh_gR fd_11_15 fl_RX12_43 dX12_putsBack_142 ?_
    refine Mh_iload_n 2 rfl dX12_putsBack_145 ?_
    refine Mh_aload_n 0 rfl dX12_putsBack_146 ?_
    refine Mh_gR fd_11_59 fl_RX12_133 dX12_putsBack_147 ?_
    refine Mh_bipush (v := 16) dX12_putsBack_150 (by decide) ?_
    refine Mh_iload_n 1 rfl dX12_putsBack_152 ?_
    refine Mh_imul dX12_putsBack_153 ?_
    refine Mh_iload_n 2 rfl dX12_putsBack_154 ?_
    refine Mh_iadd dX12_putsBack_155 ?_
    refine Mh_ial dX12_putsBack_156 ?_
    refine Mh_ias dX12_putsBack_157 ?_
    exact t_X12_putsBack_158 l E c0 s0 k135 hk135 _ _ _ _ _
def f_X12_putsBack_135 : Nat → Nat → Int32 → Int32 → Mm → Prop → Unit × Mm × Prop
  | 0, _, _, _, m, _ => ((), m, False)
  | n + 1, l0, l1, l2, m, o => f_X12_putsBack_135b (f_X12_putsBack_135 n) l0 l1 l2 m o
theorem t_X12_putsBack_135 (l : Launch) (E : En) (c0 s0 : Nat) : ∀ (n : Nat) (l0 : Nat) (l1 : Int32) (l2 : Int32) (m : Mm) (o : Prop), Mh wU l E mi_X12_putsBack c0 s0 135 [(0, .ref l0), (1, .int l1), (2, .int l2)] [] m o (f_X12_putsBack_135 n l0 l1 l2 m o)
  | 0, _, _, _, _, _ => Mh_out rfl
  | n + 1, l0, l1, l2, m, o => t_X12_putsBack_135b l E c0 s0 (f_X12_putsBack_135 n) (t_X12_putsBack_135 l E c0 s0 n) l0 l1 l2 m o
def f_X12_putsBack_2b (k2 : Nat → Int32 → Int32 → Mm → Prop → Unit × Mm × Prop) (l0 : Nat) (l1 : Int32) (l2 : Int32) (m : Mm) (o : Prop) : Unit × Mm × Prop := if (12 : Int32) ≤ l2 then (f_X12_putsBack_135 1000 l0 l1 (0 : Int32) m o) else (f_X12_putsBack_25 k2 l0 l1 l2 (sI m (gR m l0 8) (ix l2) (gI m (gR m l0 52) (ix (((12 : Int32) * l1) + l2)))) ((((o ∧ (gT m l0 = 12 ∧ gR m l0 8 ≠ 0)) ∧ (gT m l0 = 12 ∧ gR m l0 52 ≠ 0)) ∧ (gT m (gR m l0 52) = 20 ∧ vp_in (((12 : Int32) * l1) + l2) (gN m (gR m l0 52)))) ∧ (gT m (gR m l0 8) = 20 ∧ vp_in l2 (gN m (gR m l0 8)))))
set_option maxRecDepth 10000 in
theorem t_X12_putsBack_2b (l : Launch) (E : En) (c0 s0 : Nat) (k2 : Nat → Int32 → Int32 → Mm → Prop → Unit × Mm × Prop) (hk2 : ∀ (l0 : Nat) (l1 : Int32) (l2 : Int32) (m : Mm) (o : Prop), Mh wU l E mi_X12_putsBack c0 s0 2 [(0, .ref l0), (1, .int l1), (2, .int l2)] [] m o (k2 l0 l1 l2 m o)) (l0 : Nat) (l1 : Int32) (l2 : Int32) (m : Mm) (o : Prop) : Mh wU l E mi_X12_putsBack c0 s0 2 [(0, .ref l0), (1, .int l1), (2, .int l2)] [] m o (f_X12_putsBack_2b k2 l0 l1 l2 m o) := by
  refine Mh_iload_n 2 rfl dX12_putsBack_2 ?_
  refine Mh_bipush (v := 12) dX12_putsBack_3 (by decide) ?_
  refine Mh_icmp_ge (tgt := 133) dX12_putsBack_5 (by decide) rfl (fun _ => ?_) (fun _ => ?_)
  · refine Mh_iconst (v := 0) dX12_putsBack_133 (by decide) ?_
    refine Mh_istore_n (lv' := [(2, .int (0 : Int32)), (0, .ref l0), (1, .int l1)]) dX12_putsBack_134 (Nat.le_of_ble_eq_true rfl) rfl ?_
    refine Mh_sub (lv' := [(0, .ref l0), (1, .int l1), (2, .int (0 : Int32))]) [1, 2, 0] rfl ?_
    exact t_X12_putsBack_135 l E c0 s0 _ _ _ _ _ _
  · refine Mh_aload_n 0 rfl dX12_putsBack_8 ?_
    refine Mh_gR fd_11_8 fl_RX12_20 dX12_putsBack_9 ?_
    refine Mh_iload_n 2 rfl dX12_putsBack_12 ?_
    refine Mh_aload_n 0 rfl dX12_putsBack_13 ?_
    refine Mh_gR fd_11_52 fl_RX12_112 dX12_putsBack_14 ?_
    refine Mh_bipush (v := 12) dX12_putsBack_17 (by decide) ?_
    refine Mh_iload_n 1 rfl dX12_putsBack_19 ?_
    refine Mh_imul dX12_putsBack_20 ?_
    refine Mh_iload_n 2 rfl dX12_putsBack_21 ?_
    refine Mh_iadd dX12_putsBack_22 ?_
    refine Mh_ial dX12_putsBack_23 ?_
    refine Mh_ias dX12_putsBack_24 ?_
    exact t_X12_putsBack_25 l E c0 s0 k2 hk2 _ _ _ _ _
def f_X12_putsBack_2 : Nat → Nat → Int32 → Int32 → Mm → Prop → Unit × Mm × Prop
  | 0, _, _, _, m, _ => ((), m, False)
  | n + 1, l0, l1, l2, m, o => f_X12_putsBack_2b (f_X12_putsBack_2 n) l0 l1 l2 m o
theorem t_X12_putsBack_2 (l : Launch) (E : En) (c0 s0 : Nat) : ∀ (n : Nat) (l0 : Nat) (l1 : Int32) (l2 : Int32) (m : Mm) (o : Prop), Mh wU l E mi_X12_putsBack c0 s0 2 [(0, .ref l0), (1, .int l1), (2, .int l2)] [] m o (f_X12_putsBack_2 n l0 l1 l2 m o)
  | 0, _, _, _, _, _ => Mh_out rfl
  | n + 1, l0, l1, l2, m, o => t_X12_putsBack_2b l E c0 s0 (f_X12_putsBack_2 n) (t_X12_putsBack_2 l E c0 s0 n) l0 l1 l2 m o
def f_X12_putsBack_0 (l0 : Nat) (l1 : Int32) (m : Mm) (o : Prop) : Unit × Mm × Prop := f_X12_putsBack_2 1000 l0 l1 (0 : Int32) m o
set_option maxRecDepth 10000 in
theorem t_X12_putsBack_0 (l : Launch) (E : En) (c0 s0 : Nat) (l0 : Nat) (l1 : Int32) (m : Mm) (o : Prop) : Mh wU l E mi_X12_putsBack c0 s0 0 [(0, .ref l0), (1, .int l1)] [] m o (f_X12_putsBack_0 l0 l1 m o) := by
  refine Mh_iconst (v := 0) dX12_putsBack_0 (by decide) ?_
  refine Mh_istore_n (lv' := [(2, .int (0 : Int32)), (0, .ref l0), (1, .int l1)]) dX12_putsBack_1 (Nat.le_of_ble_eq_true rfl) rfl ?_
  refine Mh_sub (lv' := [(0, .ref l0), (1, .int l1), (2, .int (0 : Int32))]) [1, 2, 0] rfl ?_
  exact t_X12_putsBack_2 l E c0 s0 _ _ _ _ _ _
def F_X12_putsBack (a0 : Nat) (a1 : Int32) (m : Mm) (o : Prop) : Unit × Mm × Prop := f_X12_putsBack_0 a0 a1 m o
theorem T_X12_putsBack (l : Launch) (E : En) (a0 : Nat) (a1 : Int32) (m : Mm) (o : Prop) : Mt wU l E yX12_putsBack mi_X12_putsBack [.ref a0, .int a1] m o (F_X12_putsBack a0 a1 m o) :=
  Mt_U (by decide) rfl (fun h => by cases h) rfl (Nat.le_of_ble_eq_true rfl) rfl (t_X12_putsBack_0 l E _ _ _ _ _ _)
def f_X12_worked_91 (y0 : Int32) (m : Mm) (o : Prop) : Int32 × Mm × Prop := (y0, m, o)
set_option maxRecDepth 10000 in
theorem t_X12_worked_91 (l : Launch) (E : En) (c0 s0 : Nat) (y0 : Int32) (m : Mm) (o : Prop) : Mh wI l E mi_X12_worked c0 s0 91 [] [.int y0] m o (f_X12_worked_91 y0 m o) := by
  exact Mh_ret dX12_worked_91 rfl (fun _ => rfl) rfl
def f_X12_worked_103 (y0 : Int32) (m : Mm) (o : Prop) : Int32 × Mm × Prop := (y0, m, o)
set_option maxRecDepth 10000 in
theorem t_X12_worked_103 (l : Launch) (E : En) (c0 s0 : Nat) (y0 : Int32) (m : Mm) (o : Prop) : Mh wI l E mi_X12_worked c0 s0 103 [] [.int y0] m o (f_X12_worked_103 y0 m o) := by
  exact Mh_ret dX12_worked_103 rfl (fun _ => rfl) rfl
def f_X12_worked_114 (y0 : Int32) (m : Mm) (o : Prop) : Int32 × Mm × Prop := (y0, m, o)
set_option maxRecDepth 10000 in
theorem t_X12_worked_114 (l : Launch) (E : En) (c0 s0 : Nat) (y0 : Int32) (m : Mm) (o : Prop) : Mh wI l E mi_X12_worked c0 s0 114 [] [.int y0] m o (f_X12_worked_114 y0 m o) := by
  exact Mh_ret dX12_worked_114 rfl (fun _ => rfl) rfl
def f_X12_worked_125 (y0 : Int32) (m : Mm) (o : Prop) : Int32 × Mm × Prop := (y0, m, o)
set_option maxRecDepth 10000 in
theorem t_X12_worked_125 (l : Launch) (E : En) (c0 s0 : Nat) (y0 : Int32) (m : Mm) (o : Prop) : Mh wI l E mi_X12_worked c0 s0 125 [] [.int y0] m o (f_X12_worked_125 y0 m o) := by
  exact Mh_ret dX12_worked_125 rfl (fun _ => rfl) rfl
def f_X12_worked_136 (y0 : Int32) (m : Mm) (o : Prop) : Int32 × Mm × Prop := (y0, m, o)
set_option maxRecDepth 10000 in
theorem t_X12_worked_136 (l : Launch) (E : En) (c0 s0 : Nat) (y0 : Int32) (m : Mm) (o : Prop) : Mh wI l E mi_X12_worked c0 s0 136 [] [.int y0] m o (f_X12_worked_136 y0 m o) := by
  exact Mh_ret dX12_worked_136 rfl (fun _ => rfl) rfl
def f_X12_worked_0 (l0 : Int32) (l1 : Int32) (l2 : Int32) (m : Mm) (o : Prop) : Int32 × Mm × Prop := if l0 = 37 then (if l2 = 0 then (f_X12_worked_103 (0 : Int32) m o) else (f_X12_worked_103 (irm l1 l2) m (o ∧ ¬ l2 = 0))) else if l0 = 42 then (l1 * l2, m, o) else if l0 = 43 then (l1 + l2, m, o) else if l0 = 45 then (l1 - l2, m, o) else if l0 = 47 then (if l2 = 0 then (f_X12_worked_91 (0 : Int32) m o) else (f_X12_worked_91 (l1 / l2) m (o ∧ ¬ l2 = 0))) else if l0 = 60 then (if l2 ≤ l1 then (f_X12_worked_114 (0 : Int32) m o) else (f_X12_worked_114 (1 : Int32) m o)) else if l0 = 62 then (if l1 ≤ l2 then (f_X12_worked_125 (0 : Int32) m o) else (f_X12_worked_125 (1 : Int32) m o)) else (if l1 = l2 then (f_X12_worked_136 (1 : Int32) m o) else (f_X12_worked_136 (0 : Int32) m o))
set_option maxRecDepth 10000 in
theorem t_X12_worked_0 (l : Launch) (E : En) (c0 s0 : Nat) (l0 : Int32) (l1 : Int32) (l2 : Int32) (m : Mm) (o : Prop) : Mh wI l E mi_X12_worked c0 s0 0 [(0, .int l0), (1, .int l1), (2, .int l2)] [] m o (f_X12_worked_0 l0 l1 l2 m o) := by
  refine Mh_iload_n 0 rfl dX12_worked_0 ?_
  refine Mh_ite (C := l0 = 37) rfl (fun hs37 => ?_) (fun hs37 => ?_)
  · refine Mh_lsw (off := 91) (tgt := 92) dX12_worked_1 (by decide) (by rw [hs37]; decide) (by decide) ?_
    refine Mh_iload_n 2 rfl dX12_worked_92 ?_
    refine Mh_if_ne (tgt := 100) dX12_worked_93 (by decide) rfl (fun _ => ?_) (fun _ => ?_)
    · refine Mh_iload_n 1 rfl dX12_worked_100 ?_
      refine Mh_iload_n 2 rfl dX12_worked_101 ?_
      refine Mh_irem dX12_worked_102 ?_
      refine Mh_sub (lv' := []) [] rfl ?_
      exact t_X12_worked_103 l E c0 s0 _ _ _
    · refine Mh_iconst (v := 0) dX12_worked_96 (by decide) ?_
      refine Mh_goto (tgt := 103) dX12_worked_97 (by decide) ?_
      refine Mh_sub (lv' := []) [] rfl ?_
      exact t_X12_worked_103 l E c0 s0 _ _ _
  refine Mh_ite (C := l0 = 42) rfl (fun hs42 => ?_) (fun hs42 => ?_)
  · refine Mh_lsw (off := 75) (tgt := 76) dX12_worked_1 (by decide) (by rw [hs42]; decide) (by decide) ?_
    refine Mh_iload_n 1 rfl dX12_worked_76 ?_
    refine Mh_iload_n 2 rfl dX12_worked_77 ?_
    refine Mh_imul dX12_worked_78 ?_
    exact Mh_ret dX12_worked_79 rfl (fun _ => rfl) rfl
  refine Mh_ite (C := l0 = 43) rfl (fun hs43 => ?_) (fun hs43 => ?_)
  · refine Mh_lsw (off := 67) (tgt := 68) dX12_worked_1 (by decide) (by rw [hs43]; decide) (by decide) ?_
    refine Mh_iload_n 1 rfl dX12_worked_68 ?_
    refine Mh_iload_n 2 rfl dX12_worked_69 ?_
    refine Mh_iadd dX12_worked_70 ?_
    exact Mh_ret dX12_worked_71 rfl (fun _ => rfl) rfl
  refine Mh_ite (C := l0 = 45) rfl (fun hs45 => ?_) (fun hs45 => ?_)
  · refine Mh_lsw (off := 71) (tgt := 72) dX12_worked_1 (by decide) (by rw [hs45]; decide) (by decide) ?_
    refine Mh_iload_n 1 rfl dX12_worked_72 ?_
    refine Mh_iload_n 2 rfl dX12_worked_73 ?_
    refine Mh_isub dX12_worked_74 ?_
    exact Mh_ret dX12_worked_75 rfl (fun _ => rfl) rfl
  refine Mh_ite (C := l0 = 47) rfl (fun hs47 => ?_) (fun hs47 => ?_)
  · refine Mh_lsw (off := 79) (tgt := 80) dX12_worked_1 (by decide) (by rw [hs47]; decide) (by decide) ?_
    refine Mh_iload_n 2 rfl dX12_worked_80 ?_
    refine Mh_if_ne (tgt := 88) dX12_worked_81 (by decide) rfl (fun _ => ?_) (fun _ => ?_)
    · refine Mh_iload_n 1 rfl dX12_worked_88 ?_
      refine Mh_iload_n 2 rfl dX12_worked_89 ?_
      refine Mh_idiv dX12_worked_90 ?_
      refine Mh_sub (lv' := []) [] rfl ?_
      exact t_X12_worked_91 l E c0 s0 _ _ _
    · refine Mh_iconst (v := 0) dX12_worked_84 (by decide) ?_
      refine Mh_goto (tgt := 91) dX12_worked_85 (by decide) ?_
      refine Mh_sub (lv' := []) [] rfl ?_
      exact t_X12_worked_91 l E c0 s0 _ _ _
  refine Mh_ite (C := l0 = 60) rfl (fun hs60 => ?_) (fun hs60 => ?_)
  · refine Mh_lsw (off := 103) (tgt := 104) dX12_worked_1 (by decide) (by rw [hs60]; decide) (by decide) ?_
    refine Mh_iload_n 1 rfl dX12_worked_104 ?_
    refine Mh_iload_n 2 rfl dX12_worked_105 ?_
    refine Mh_icmp_ge (tgt := 113) dX12_worked_106 (by decide) rfl (fun _ => ?_) (fun _ => ?_)
    · refine Mh_iconst (v := 0) dX12_worked_113 (by decide) ?_
      refine Mh_sub (lv' := []) [] rfl ?_
      exact t_X12_worked_114 l E c0 s0 _ _ _
    · refine Mh_iconst (v := 1) dX12_worked_109 (by decide) ?_
      refine Mh_goto (tgt := 114) dX12_worked_110 (by decide) ?_
      refine Mh_sub (lv' := []) [] rfl ?_
      exact t_X12_worked_114 l E c0 s0 _ _ _
  refine Mh_ite (C := l0 = 62) rfl (fun hs62 => ?_) (fun hs62 => ?_)
  · refine Mh_lsw (off := 114) (tgt := 115) dX12_worked_1 (by decide) (by rw [hs62]; decide) (by decide) ?_
    refine Mh_iload_n 1 rfl dX12_worked_115 ?_
    refine Mh_iload_n 2 rfl dX12_worked_116 ?_
    refine Mh_icmp_le (tgt := 124) dX12_worked_117 (by decide) rfl (fun _ => ?_) (fun _ => ?_)
    · refine Mh_iconst (v := 0) dX12_worked_124 (by decide) ?_
      refine Mh_sub (lv' := []) [] rfl ?_
      exact t_X12_worked_125 l E c0 s0 _ _ _
    · refine Mh_iconst (v := 1) dX12_worked_120 (by decide) ?_
      refine Mh_goto (tgt := 125) dX12_worked_121 (by decide) ?_
      refine Mh_sub (lv' := []) [] rfl ?_
      exact t_X12_worked_125 l E c0 s0 _ _ _
  refine Mh_lsw (off := 125) (tgt := 126) dX12_worked_1 (by decide) (by rw [lv_osw hs37 (by decide)]; rw [lv_osw hs42 (by decide)]; rw [lv_osw hs43 (by decide)]; rw [lv_osw hs45 (by decide)]; rw [lv_osw hs47 (by decide)]; rw [lv_osw hs60 (by decide)]; rw [lv_osw hs62 (by decide)]; rfl) (by decide) ?_
  refine Mh_iload_n 1 rfl dX12_worked_126 ?_
  refine Mh_iload_n 2 rfl dX12_worked_127 ?_
  refine Mh_icmp_ne (tgt := 135) dX12_worked_128 (by decide) rfl (fun _ => ?_) (fun _ => ?_)
  · refine Mh_iconst (v := 0) dX12_worked_135 (by decide) ?_
    refine Mh_sub (lv' := []) [] rfl ?_
    exact t_X12_worked_136 l E c0 s0 _ _ _
  · refine Mh_iconst (v := 1) dX12_worked_131 (by decide) ?_
    refine Mh_goto (tgt := 136) dX12_worked_132 (by decide) ?_
    refine Mh_sub (lv' := []) [] rfl ?_
    exact t_X12_worked_136 l E c0 s0 _ _ _
def F_X12_worked (a0 : Int32) (a1 : Int32) (a2 : Int32) (m : Mm) (o : Prop) : Int32 × Mm × Prop := f_X12_worked_0 a0 a1 a2 m o
theorem T_X12_worked (l : Launch) (E : En) (a0 : Int32) (a1 : Int32) (a2 : Int32) (m : Mm) (o : Prop) : Mt wI l E yX12_worked mi_X12_worked [.int a0, .int a1, .int a2] m o (F_X12_worked a0 a1 a2 m o) :=
  Mt_I (by decide) rfl rfl rfl (Nat.le_of_ble_eq_true rfl) rfl (.inl rfl) (t_X12_worked_0 l E _ _ _ _ _ _ _)
def f_X12_does_45 (m : Mm) (o : Prop) : Unit × Mm × Prop := ((), m, o)
set_option maxRecDepth 10000 in
theorem t_X12_does_45 (l : Launch) (E : En) (c0 s0 : Nat) (m : Mm) (o : Prop) : Mh wU l E mi_X12_does c0 s0 45 [] [] m o (f_X12_does_45  m o) := by
  exact Mh_ret dX12_does_45 rfl (fun _ => trivial) rfl
def f_X12_does_70 (m : Mm) (o : Prop) : Unit × Mm × Prop := ((), m, o)
set_option maxRecDepth 10000 in
theorem t_X12_does_70 (l : Launch) (E : En) (c0 s0 : Nat) (m : Mm) (o : Prop) : Mh wU l E mi_X12_does c0 s0 70 [] [] m o (f_X12_does_70  m o) := by
  exact Mh_ret dX12_does_70 rfl (fun _ => trivial) rfl
def f_X12_does_58 (l0 : Nat) (l2 : Int32) (l3 : Int32) (m : Mm) (o : Prop) : Unit × Mm × Prop := f_X12_does_70  (sI m (gR m l0 48) (ix l2) ((gI m (gR m l0 48) (ix l3)) &&& 1)) (((o ∧ (gT m l0 = 12 ∧ gR m l0 48 ≠ 0)) ∧ (gT m (gR m l0 48) = 22 ∧ vp_in l3 (gN m (gR m l0 48)))) ∧ (gT m (gR m l0 48) = 22 ∧ vp_in l2 (gN m (gR m l0 48))))
set_option maxRecDepth 10000 in
theorem t_X12_does_58 (l : Launch) (E : En) (c0 s0 : Nat) (l0 : Nat) (l2 : Int32) (l3 : Int32) (m : Mm) (o : Prop) : Mh wU l E mi_X12_does c0 s0 58 [(0, .ref l0), (2, .int l2), (3, .int l3)] [] m o (f_X12_does_58 l0 l2 l3 m o) := by
  refine Mh_aload_n 0 rfl dX12_does_58 ?_
  refine Mh_gR fd_11_48 fl_RX12_106 dX12_does_59 ?_
  refine Mh_iload_n 1 rfl dX12_does_62 ?_
  refine Mh_aload_n 0 rfl dX12_does_63 ?_
  refine Mh_gR fd_11_48 fl_RX12_106 dX12_does_64 ?_
  refine Mh_ok (fun h => h.2) ?_
  refine Mh_iload_n 2 rfl dX12_does_67 ?_
  refine Mh_zal dX12_does_68 ?_
  refine Mh_zas dX12_does_69 ?_
  refine Mh_sub (lv' := []) [] rfl ?_
  exact t_X12_does_70 l E c0 s0  _ _
def f_X12_does_42 (l0 : Nat) (l2 : Int32) (l3 : Int32) (y1 : Int32) (y0 : Int32) (m : Mm) (o : Prop) : Unit × Mm × Prop := if y0 = y1 then (f_X12_does_58 l0 l2 l3 (sI m (gR m l0 47) (ix l2) (gI m (gR m l0 47) (ix l3))) (((o ∧ (gT m l0 = 12 ∧ gR m l0 47 ≠ 0)) ∧ (gT m (gR m l0 47) = 20 ∧ vp_in l3 (gN m (gR m l0 47)))) ∧ (gT m (gR m l0 47) = 20 ∧ vp_in l2 (gN m (gR m l0 47))))) else (f_X12_does_45  m o)
set_option maxRecDepth 10000 in
theorem t_X12_does_42 (l : Launch) (E : En) (c0 s0 : Nat) (l0 : Nat) (l2 : Int32) (l3 : Int32) (y1 : Int32) (y0 : Int32) (m : Mm) (o : Prop) : Mh wU l E mi_X12_does c0 s0 42 [(0, .ref l0), (2, .int l2), (3, .int l3)] [.int y1, .int y0] m o (f_X12_does_42 l0 l2 l3 y1 y0 m o) := by
  refine Mh_icmp_eq (tgt := 46) dX12_does_42 (by decide) rfl (fun _ => ?_) (fun _ => ?_)
  · refine Mh_aload_n 0 rfl dX12_does_46 ?_
    refine Mh_gR fd_11_47 fl_RX12_103 dX12_does_47 ?_
    refine Mh_iload_n 1 rfl dX12_does_50 ?_
    refine Mh_aload_n 0 rfl dX12_does_51 ?_
    refine Mh_gR fd_11_47 fl_RX12_103 dX12_does_52 ?_
    refine Mh_ok (fun h => h.2) ?_
    refine Mh_iload_n 2 rfl dX12_does_55 ?_
    refine Mh_ial dX12_does_56 ?_
    refine Mh_ias dX12_does_57 ?_
    exact t_X12_does_58 l E c0 s0 _ _ _ _ _
  · refine Mh_sub (lv' := []) [] rfl ?_
    exact t_X12_does_45 l E c0 s0  _ _
def f_X12_does_16 (l0 : Nat) (l1 : Int32) (l2 : Int32) (l3 : Int32) (m : Mm) (o : Prop) : Unit × Mm × Prop := if (gI m (gR m l0 48) (ix l2)) = 0 then (if l1 = (38 : Int32) then (f_X12_does_42 l0 l2 l3 (1 : Int32) (gI m (gR m l0 47) (ix l2)) m ((((o ∧ (gT m l0 = 12 ∧ gR m l0 48 ≠ 0)) ∧ (gT m (gR m l0 48) = 22 ∧ vp_in l2 (gN m (gR m l0 48)))) ∧ (gT m l0 = 12 ∧ gR m l0 47 ≠ 0)) ∧ (gT m (gR m l0 47) = 20 ∧ vp_in l2 (gN m (gR m l0 47))))) else (f_X12_does_42 l0 l2 l3 (0 : Int32) (gI m (gR m l0 47) (ix l2)) m ((((o ∧ (gT m l0 = 12 ∧ gR m l0 48 ≠ 0)) ∧ (gT m (gR m l0 48) = 22 ∧ vp_in l2 (gN m (gR m l0 48)))) ∧ (gT m l0 = 12 ∧ gR m l0 47 ≠ 0)) ∧ (gT m (gR m l0 47) = 20 ∧ vp_in l2 (gN m (gR m l0 47)))))) else (f_X12_does_45  m ((o ∧ (gT m l0 = 12 ∧ gR m l0 48 ≠ 0)) ∧ (gT m (gR m l0 48) = 22 ∧ vp_in l2 (gN m (gR m l0 48)))))
set_option maxRecDepth 10000 in
theorem t_X12_does_16 (l : Launch) (E : En) (c0 s0 : Nat) (l0 : Nat) (l1 : Int32) (l2 : Int32) (l3 : Int32) (m : Mm) (o : Prop) : Mh wU l E mi_X12_does c0 s0 16 [(0, .ref l0), (1, .int l1), (2, .int l2), (3, .int l3)] [] m o (f_X12_does_16 l0 l1 l2 l3 m o) := by
  refine Mh_aload_n 0 rfl dX12_does_16 ?_
  refine Mh_gR fd_11_48 fl_RX12_106 dX12_does_17 ?_
  refine Mh_iload_n 2 rfl dX12_does_20 ?_
  refine Mh_zal dX12_does_21 ?_
  refine Mh_if_ne (tgt := 45) dX12_does_22 (by decide) rfl (fun _ => ?_) (fun _ => ?_)
  · refine Mh_sub (lv' := []) [] rfl ?_
    exact t_X12_does_45 l E c0 s0  _ _
  · refine Mh_aload_n 0 rfl dX12_does_25 ?_
    refine Mh_gR fd_11_47 fl_RX12_103 dX12_does_26 ?_
    refine Mh_iload_n 2 rfl dX12_does_29 ?_
    refine Mh_ial dX12_does_30 ?_
    refine Mh_iload_n 1 rfl dX12_does_31 ?_
    refine Mh_bipush (v := 38) dX12_does_32 (by decide) ?_
    refine Mh_icmp_ne (tgt := 41) dX12_does_34 (by decide) rfl (fun _ => ?_) (fun _ => ?_)
    · refine Mh_iconst (v := 0) dX12_does_41 (by decide) ?_
      refine Mh_sub (lv' := [(0, .ref l0), (2, .int l2), (3, .int l3)]) [0, 2, 3] rfl ?_
      exact t_X12_does_42 l E c0 s0 _ _ _ _ _ _ _
    · refine Mh_iconst (v := 1) dX12_does_37 (by decide) ?_
      refine Mh_goto (tgt := 42) dX12_does_38 (by decide) ?_
      refine Mh_sub (lv' := [(0, .ref l0), (2, .int l2), (3, .int l3)]) [0, 2, 3] rfl ?_
      exact t_X12_does_42 l E c0 s0 _ _ _ _ _ _ _
def f_X12_does_143 (m : Mm) (o : Prop) : Unit × Mm × Prop := ((), m, o)
set_option maxRecDepth 10000 in
theorem t_X12_does_143 (l : Launch) (E : En) (c0 s0 : Nat) (m : Mm) (o : Prop) : Mh wU l E mi_X12_does c0 s0 143 [] [] m o (f_X12_does_143  m o) := by
  exact Mh_ret dX12_does_143 rfl (fun _ => trivial) rfl
def f_X12_does_142 (y2 : Int32) (y1 : Int32) (y0 : Nat) (m : Mm) (o : Prop) : Unit × Mm × Prop := f_X12_does_143  (sI m y0 (ix y1) y2) (o ∧ (gT m y0 = 20 ∧ vp_in y1 (gN m y0)))
set_option maxRecDepth 10000 in
theorem t_X12_does_142 (l : Launch) (E : En) (c0 s0 : Nat) (y2 : Int32) (y1 : Int32) (y0 : Nat) (m : Mm) (o : Prop) : Mh wU l E mi_X12_does c0 s0 142 [] [.int y2, .int y1, .ref y0] m o (f_X12_does_142 y2 y1 y0 m o) := by
  refine Mh_ias dX12_does_142 ?_
  exact t_X12_does_143 l E c0 s0  _ _
def f_X12_does_121 (l0 : Nat) (l1 : Int32) (l2 : Int32) (l3 : Int32) (m : Mm) (o : Prop) : Unit × Mm × Prop := bnd (F_X12_worked l1 (gI m (gR m l0 47) (ix l2)) (gI m (gR m l0 47) (ix l3)) m (((o ∧ (gT m l0 = 12 ∧ gR m l0 47 ≠ 0)) ∧ (gT m (gR m l0 47) = 20 ∧ vp_in l2 (gN m (gR m l0 47)))) ∧ (gT m (gR m l0 47) = 20 ∧ vp_in l3 (gN m (gR m l0 47))))) (fun v1 m1 o1 => f_X12_does_142 v1 l2 (gR m l0 47) m1 o1)
set_option maxRecDepth 10000 in
theorem t_X12_does_121 (l : Launch) (E : En) (c0 s0 : Nat) (l0 : Nat) (l1 : Int32) (l2 : Int32) (l3 : Int32) (m : Mm) (o : Prop) : Mh wU l E mi_X12_does c0 s0 121 [(0, .ref l0), (1, .int l1), (2, .int l2), (3, .int l3)] [] m o (f_X12_does_121 l0 l1 l2 l3 m o) := by
  refine Mh_aload_n 0 rfl dX12_does_121 ?_
  refine Mh_gR fd_11_47 fl_RX12_103 dX12_does_122 ?_
  refine Mh_iload_n 2 rfl dX12_does_125 ?_
  refine Mh_iload_n 1 rfl dX12_does_126 ?_
  refine Mh_aload_n 0 rfl dX12_does_127 ?_
  refine Mh_gR fd_11_47 fl_RX12_103 dX12_does_128 ?_
  refine Mh_ok (fun h => h.2) ?_
  refine Mh_iload_n 2 rfl dX12_does_131 ?_
  refine Mh_ial dX12_does_132 ?_
  refine Mh_aload_n 0 rfl dX12_does_133 ?_
  refine Mh_gR fd_11_47 fl_RX12_103 dX12_does_134 ?_
  refine Mh_ok (fun h => h.1.2) ?_
  refine Mh_iload_n 3 rfl dX12_does_137 ?_
  refine Mh_ial dX12_does_138 ?_
  refine Mh_csI (N := mi_X12_worked) (as := [.int l1, .int (gI m (gR m l0 47) (ix l2)), .int (gI m (gR m l0 47) (ix l3))]) (st := [.int l2, .ref (gR m l0 47)]) cg_yX12_worked (.inl ml_RX12_365) sv_yX12_worked pd_yX12_worked rfl (by decide) (Nat.le_of_ble_eq_true rfl) rfl dX12_does_139 (T_X12_worked l E _ _ _ _ _) rfl ?_
  refine Mh_sub (lv' := []) [] rfl ?_
  exact t_X12_does_142 l E c0 s0 _ _ _ _ _
def f_X12_does_120 (l0 : Nat) (l1 : Int32) (l2 : Int32) (l3 : Int32) (y2 : Int32) (y1 : Int32) (y0 : Nat) (m : Mm) (o : Prop) : Unit × Mm × Prop := f_X12_does_121 l0 l1 l2 l3 (sI m y0 (ix y1) (y2 &&& 1)) (o ∧ (gT m y0 = 22 ∧ vp_in y1 (gN m y0)))
set_option maxRecDepth 10000 in
theorem t_X12_does_120 (l : Launch) (E : En) (c0 s0 : Nat) (l0 : Nat) (l1 : Int32) (l2 : Int32) (l3 : Int32) (y2 : Int32) (y1 : Int32) (y0 : Nat) (m : Mm) (o : Prop) : Mh wU l E mi_X12_does c0 s0 120 [(0, .ref l0), (1, .int l1), (2, .int l2), (3, .int l3)] [.int y2, .int y1, .ref y0] m o (f_X12_does_120 l0 l1 l2 l3 y2 y1 y0 m o) := by
  refine Mh_zas dX12_does_120 ?_
  exact t_X12_does_121 l E c0 s0 _ _ _ _ _ _
def f_X12_does_115 (l0 : Nat) (l1 : Int32) (l2 : Int32) (l3 : Int32) (y1 : Int32) (y0 : Nat) (m : Mm) (o : Prop) : Unit × Mm × Prop := f_X12_does_120 l0 l1 l2 l3 (1 : Int32) y1 y0 m o
set_option maxRecDepth 10000 in
theorem t_X12_does_115 (l : Launch) (E : En) (c0 s0 : Nat) (l0 : Nat) (l1 : Int32) (l2 : Int32) (l3 : Int32) (y1 : Int32) (y0 : Nat) (m : Mm) (o : Prop) : Mh wU l E mi_X12_does c0 s0 115 [(0, .ref l0), (1, .int l1), (2, .int l2), (3, .int l3)] [.int y1, .ref y0] m o (f_X12_does_115 l0 l1 l2 l3 y1 y0 m o) := by
  refine Mh_iconst (v := 1) dX12_does_115 (by decide) ?_
  refine Mh_goto (tgt := 120) dX12_does_116 (by decide) ?_
  exact t_X12_does_120 l E c0 s0 _ _ _ _ _ _ _ _ _
def f_X12_does_119 (l0 : Nat) (l1 : Int32) (l2 : Int32) (l3 : Int32) (y1 : Int32) (y0 : Nat) (m : Mm) (o : Prop) : Unit × Mm × Prop := f_X12_does_120 l0 l1 l2 l3 (0 : Int32) y1 y0 m o
set_option maxRecDepth 10000 in
theorem t_X12_does_119 (l : Launch) (E : En) (c0 s0 : Nat) (l0 : Nat) (l1 : Int32) (l2 : Int32) (l3 : Int32) (y1 : Int32) (y0 : Nat) (m : Mm) (o : Prop) : Mh wU l E mi_X12_does c0 s0 119 [(0, .ref l0), (1, .int l1), (2, .int l2), (3, .int l3)] [.int y1, .ref y0] m o (f_X12_does_119 l0 l1 l2 l3 y1 y0 m o) := by
  refine Mh_iconst (v := 0) dX12_does_119 (by decide) ?_
  exact t_X12_does_120 l E c0 s0 _ _ _ _ _ _ _ _ _
def f_X12_does_106 (l0 : Nat) (l1 : Int32) (l2 : Int32) (l3 : Int32) (y1 : Int32) (y0 : Nat) (m : Mm) (o : Prop) : Unit × Mm × Prop := if (gI m (gR m l0 47) (ix l3)) = 0 then (f_X12_does_115 l0 l1 l2 l3 y1 y0 m ((o ∧ (gT m l0 = 12 ∧ gR m l0 47 ≠ 0)) ∧ (gT m (gR m l0 47) = 20 ∧ vp_in l3 (gN m (gR m l0 47))))) else (f_X12_does_119 l0 l1 l2 l3 y1 y0 m ((o ∧ (gT m l0 = 12 ∧ gR m l0 47 ≠ 0)) ∧ (gT m (gR m l0 47) = 20 ∧ vp_in l3 (gN m (gR m l0 47)))))
set_option maxRecDepth 10000 in
theorem t_X12_does_106 (l : Launch) (E : En) (c0 s0 : Nat) (l0 : Nat) (l1 : Int32) (l2 : Int32) (l3 : Int32) (y1 : Int32) (y0 : Nat) (m : Mm) (o : Prop) : Mh wU l E mi_X12_does c0 s0 106 [(0, .ref l0), (1, .int l1), (2, .int l2), (3, .int l3)] [.int y1, .ref y0] m o (f_X12_does_106 l0 l1 l2 l3 y1 y0 m o) := by
  refine Mh_aload_n 0 rfl dX12_does_106 ?_
  refine Mh_gR fd_11_47 fl_RX12_103 dX12_does_107 ?_
  refine Mh_iload_n 3 rfl dX12_does_110 ?_
  refine Mh_ial dX12_does_111 ?_
  refine Mh_if_ne (tgt := 119) dX12_does_112 (by decide) rfl (fun _ => ?_) (fun _ => ?_)
  · exact t_X12_does_119 l E c0 s0 _ _ _ _ _ _ _ _
  · exact t_X12_does_115 l E c0 s0 _ _ _ _ _ _ _ _
def f_X12_does_0 (l0 : Nat) (l1 : Int32) (l2 : Int32) (m : Mm) (o : Prop) : Unit × Mm × Prop := if l1 = (38 : Int32) then (f_X12_does_16 l0 l1 l2 (l2 + (1 : Int32)) m o) else (if l1 = (124 : Int32) then (f_X12_does_16 l0 l1 l2 (l2 + (1 : Int32)) m o) else (if (gI m (gR m l0 48) (ix l2)) = 0 then (if (gI m (gR m l0 48) (ix (l2 + (1 : Int32)))) = 0 then (if l1 = (47 : Int32) then (f_X12_does_106 l0 l1 l2 (l2 + (1 : Int32)) l2 (gR m l0 48) m (((o ∧ (gT m l0 = 12 ∧ gR m l0 48 ≠ 0)) ∧ (gT m (gR m l0 48) = 22 ∧ vp_in l2 (gN m (gR m l0 48)))) ∧ (gT m (gR m l0 48) = 22 ∧ vp_in (l2 + (1 : Int32)) (gN m (gR m l0 48))))) else (if l1 = (37 : Int32) then (f_X12_does_106 l0 l1 l2 (l2 + (1 : Int32)) l2 (gR m l0 48) m (((o ∧ (gT m l0 = 12 ∧ gR m l0 48 ≠ 0)) ∧ (gT m (gR m l0 48) = 22 ∧ vp_in l2 (gN m (gR m l0 48)))) ∧ (gT m (gR m l0 48) = 22 ∧ vp_in (l2 + (1 : Int32)) (gN m (gR m l0 48))))) else (f_X12_does_119 l0 l1 l2 (l2 + (1 : Int32)) l2 (gR m l0 48) m (((o ∧ (gT m l0 = 12 ∧ gR m l0 48 ≠ 0)) ∧ (gT m (gR m l0 48) = 22 ∧ vp_in l2 (gN m (gR m l0 48)))) ∧ (gT m (gR m l0 48) = 22 ∧ vp_in (l2 + (1 : Int32)) (gN m (gR m l0 48))))))) else (f_X12_does_115 l0 l1 l2 (l2 + (1 : Int32)) l2 (gR m l0 48) m (((o ∧ (gT m l0 = 12 ∧ gR m l0 48 ≠ 0)) ∧ (gT m (gR m l0 48) = 22 ∧ vp_in l2 (gN m (gR m l0 48)))) ∧ (gT m (gR m l0 48) = 22 ∧ vp_in (l2 + (1 : Int32)) (gN m (gR m l0 48)))))) else (f_X12_does_115 l0 l1 l2 (l2 + (1 : Int32)) l2 (gR m l0 48) m ((o ∧ (gT m l0 = 12 ∧ gR m l0 48 ≠ 0)) ∧ (gT m (gR m l0 48) = 22 ∧ vp_in l2 (gN m (gR m l0 48)))))))
set_option maxRecDepth 10000 in
theorem t_X12_does_0 (l : Launch) (E : En) (c0 s0 : Nat) (l0 : Nat) (l1 : Int32) (l2 : Int32) (m : Mm) (o : Prop) : Mh wU l E mi_X12_does c0 s0 0 [(0, .ref l0), (1, .int l1), (2, .int l2)] [] m o (f_X12_does_0 l0 l1 l2 m o) := by
  refine Mh_iload_n 2 rfl dX12_does_0 ?_
  refine Mh_iconst (v := 1) dX12_does_1 (by decide) ?_
  refine Mh_iadd dX12_does_2 ?_
  refine Mh_istore_n (lv' := [(3, .int (l2 + (1 : Int32))), (0, .ref l0), (1, .int l1), (2, .int l2)]) dX12_does_3 (Nat.le_of_ble_eq_true rfl) rfl ?_
  refine Mh_iload_n 2 rfl dX12_does_4 ?_
  refine Mh_bipush (v := 38) dX12_does_5 (by decide) ?_
  refine Mh_icmp_eq (tgt := 16) dX12_does_7 (by decide) rfl (fun _ => ?_) (fun _ => ?_)
  · refine Mh_sub (lv' := [(0, .ref l0), (1, .int l1), (2, .int l2), (3, .int (l2 + (1 : Int32)))]) [1, 2, 3, 0] rfl ?_
    exact t_X12_does_16 l E c0 s0 _ _ _ _ _ _
  · refine Mh_iload_n 2 rfl dX12_does_10 ?_
    refine Mh_bipush (v := 124) dX12_does_11 (by decide) ?_
    refine Mh_icmp_ne (tgt := 71) dX12_does_13 (by decide) rfl (fun _ => ?_) (fun _ => ?_)
    · refine Mh_aload_n 1 rfl dX12_does_71 ?_
      refine Mh_gR fd_11_48 fl_RX12_106 dX12_does_72 ?_
      refine Mh_iload_n 3 rfl dX12_does_75 ?_
      refine Mh_aload_n 1 rfl dX12_does_76 ?_
      refine Mh_gR fd_11_48 fl_RX12_106 dX12_does_77 ?_
      refine Mh_ok (fun h => h.2) ?_
      refine Mh_iload_n 3 rfl dX12_does_80 ?_
      refine Mh_zal dX12_does_81 ?_
      refine Mh_if_ne (tgt := 115) dX12_does_82 (by decide) rfl (fun _ => ?_) (fun _ => ?_)
      · refine Mh_sub (lv' := [(0, .ref l0), (1, .int l1), (2, .int l2), (3, .int (l2 + (1 : Int32)))]) [1, 2, 3, 0] rfl ?_
        exact t_X12_does_115 l E c0 s0 _ _ _ _ _ _ _ _
      · refine Mh_aload_n 1 rfl dX12_does_85 ?_
        refine Mh_gR fd_11_48 fl_RX12_106 dX12_does_86 ?_
        refine Mh_ok (fun h => h.1.2) ?_
        refine Mh_iload_n 0 rfl dX12_does_89 ?_
        refine Mh_zal dX12_does_90 ?_
        refine Mh_if_ne (tgt := 115) dX12_does_91 (by decide) rfl (fun _ => ?_) (fun _ => ?_)
        · refine Mh_sub (lv' := [(0, .ref l0), (1, .int l1), (2, .int l2), (3, .int (l2 + (1 : Int32)))]) [1, 2, 3, 0] rfl ?_
          exact t_X12_does_115 l E c0 s0 _ _ _ _ _ _ _ _
        · refine Mh_iload_n 2 rfl dX12_does_94 ?_
          refine Mh_bipush (v := 47) dX12_does_95 (by decide) ?_
          refine Mh_icmp_eq (tgt := 106) dX12_does_97 (by decide) rfl (fun _ => ?_) (fun _ => ?_)
          · refine Mh_sub (lv' := [(0, .ref l0), (1, .int l1), (2, .int l2), (3, .int (l2 + (1 : Int32)))]) [1, 2, 3, 0] rfl ?_
            exact t_X12_does_106 l E c0 s0 _ _ _ _ _ _ _ _
          · refine Mh_iload_n 2 rfl dX12_does_100 ?_
            refine Mh_bipush (v := 37) dX12_does_101 (by decide) ?_
            refine Mh_icmp_ne (tgt := 119) dX12_does_103 (by decide) rfl (fun _ => ?_) (fun _ => ?_)
            · refine Mh_sub (lv' := [(0, .ref l0), (1, .int l1), (2, .int l2), (3, .int (l2 + (1 : Int32)))]) [1, 2, 3, 0] rfl ?_
              exact t_X12_does_119 l E c0 s0 _ _ _ _ _ _ _ _
            · refine Mh_sub (lv' := [(0, .ref l0), (1, .int l1), (2, .int l2), (3, .int (l2 + (1 : Int32)))]) [1, 2, 3, 0] rfl ?_
              exact t_X12_does_106 l E c0 s0 _ _ _ _ _ _ _ _
    · refine Mh_sub (lv' := [(0, .ref l0), (1, .int l1), (2, .int l2), (3, .int (l2 + (1 : Int32)))]) [1, 2, 3, 0] rfl ?_
      exact t_X12_does_16 l E c0 s0 _ _ _ _ _ _
def F_X12_does (a0 : Nat) (a1 : Int32) (a2 : Int32) (m : Mm) (o : Prop) : Unit × Mm × Prop := f_X12_does_0 a0 a1 a2 m o
theorem T_X12_does (l : Launch) (E : En) (a0 : Nat) (a1 : Int32) (a2 : Int32) (m : Mm) (o : Prop) : Mt wU l E yX12_does mi_X12_does [.ref a0, .int a1, .int a2] m o (F_X12_does a0 a1 a2 m o) :=
  Mt_U (by decide) rfl (fun h => by cases h) rfl (Nat.le_of_ble_eq_true rfl) rfl (t_X12_does_0 l E _ _ _ _ _ _ _)
