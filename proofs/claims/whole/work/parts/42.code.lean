def f_X12_cow_36 (m : Mm) (o : Prop) : Int32 × Mm × Prop := ((-1 : Int32), m, o)
set_option maxRecDepth 10000 in
theorem t_X12_cow_36 (l : Launch) (E : En) (c0 s0 : Nat) (m : Mm) (o : Prop) : Mh wI l E mi_X12_cow c0 s0 36 [] [] m o (f_X12_cow_36  m o) := by
  refine Mh_iconst (v := (-1)) dX12_cow_36 (by decide) ?_
  exact Mh_ret dX12_cow_37 rfl (fun _ => rfl) rfl
def f_X12_cow_118 (k97 : Nat → Int32 → Mm → Prop → Int32 × Mm × Prop) (l0 : Nat) (l5 : Int32) (m : Mm) (o : Prop) : Int32 × Mm × Prop := k97 l0 (l5 + 1) m o
set_option maxRecDepth 10000 in
theorem t_X12_cow_118 (l : Launch) (E : En) (c0 s0 : Nat) (k97 : Nat → Int32 → Mm → Prop → Int32 × Mm × Prop) (hk97 : ∀ (l0 : Nat) (l5 : Int32) (m : Mm) (o : Prop), Mh wI l E mi_X12_cow c0 s0 97 [(0, .ref l0), (5, .int l5)] [] m o (k97 l0 l5 m o)) (l0 : Nat) (l5 : Int32) (m : Mm) (o : Prop) : Mh wI l E mi_X12_cow c0 s0 118 [(0, .ref l0), (5, .int l5)] [] m o (f_X12_cow_118 k97 l0 l5 m o) := by
  refine Mh_iinc (v := l5 + 1) (lv' := [(5, .int (l5 + 1)), (0, .ref l0)]) 1 dX12_cow_118 rfl rfl (Nat.le_of_ble_eq_true rfl) rfl ?_
  refine Mh_goto (tgt := 97) dX12_cow_121 (by decide) ?_
  refine Mh_sub (lv' := [(0, .ref l0), (5, .int (l5 + 1))]) [1, 0] rfl ?_
  exact hk97 _ _ _ _
def f_X12_cow_150 (k127 : Nat → Int32 → Mm → Prop → Int32 × Mm × Prop) (l0 : Nat) (l5 : Int32) (m : Mm) (o : Prop) : Int32 × Mm × Prop := k127 l0 (l5 + 1) m o
set_option maxRecDepth 10000 in
theorem t_X12_cow_150 (l : Launch) (E : En) (c0 s0 : Nat) (k127 : Nat → Int32 → Mm → Prop → Int32 × Mm × Prop) (hk127 : ∀ (l0 : Nat) (l5 : Int32) (m : Mm) (o : Prop), Mh wI l E mi_X12_cow c0 s0 127 [(0, .ref l0), (5, .int l5)] [] m o (k127 l0 l5 m o)) (l0 : Nat) (l5 : Int32) (m : Mm) (o : Prop) : Mh wI l E mi_X12_cow c0 s0 150 [(0, .ref l0), (5, .int l5)] [] m o (f_X12_cow_150 k127 l0 l5 m o) := by
  refine Mh_iinc (v := l5 + 1) (lv' := [(5, .int (l5 + 1)), (0, .ref l0)]) 1 dX12_cow_150 rfl rfl (Nat.le_of_ble_eq_true rfl) rfl ?_
  refine Mh_goto (tgt := 127) dX12_cow_153 (by decide) ?_
  refine Mh_sub (lv' := [(0, .ref l0), (5, .int (l5 + 1))]) [1, 0] rfl ?_
  exact hk127 _ _ _ _
def f_X12_cow_166 (l0 : Nat) (m : Mm) (o : Prop) : Int32 × Mm × Prop := ((gI m l0 3) - (1 : Int32), m, (o ∧ gT m l0 = 12))
set_option maxRecDepth 10000 in
theorem t_X12_cow_166 (l : Launch) (E : En) (c0 s0 : Nat) (l0 : Nat) (m : Mm) (o : Prop) : Mh wI l E mi_X12_cow c0 s0 166 [(0, .ref l0)] [] m o (f_X12_cow_166 l0 m o) := by
  refine Mh_aload_n 0 rfl dX12_cow_166 ?_
  refine Mh_gI fd_11_3 fl_RX12_199 dX12_cow_167 ?_
  refine Mh_iconst (v := 1) dX12_cow_170 (by decide) ?_
  refine Mh_isub dX12_cow_171 ?_
  exact Mh_ret dX12_cow_172 rfl (fun _ => rfl) rfl
def f_X12_cow_127b (k127 : Nat → Int32 → Mm → Prop → Int32 × Mm × Prop) (l0 : Nat) (l5 : Int32) (m : Mm) (o : Prop) : Int32 × Mm × Prop := if (12 : Int32) ≤ l5 then (f_X12_cow_166 l0 (sI m l0 3 ((gI m l0 3) + (1 : Int32))) (o ∧ gT m l0 = 12)) else (f_X12_cow_150 k127 l0 l5 (sI m (gR m l0 21) (ix (((16 : Int32) * l5) + (gI m l0 3))) (0 : Int32)) (((o ∧ (gT m l0 = 12 ∧ gR m l0 21 ≠ 0)) ∧ gT m l0 = 12) ∧ (gT m (gR m l0 21) = 20 ∧ vp_in (((16 : Int32) * l5) + (gI m l0 3)) (gN m (gR m l0 21)))))
set_option maxRecDepth 10000 in
theorem t_X12_cow_127b (l : Launch) (E : En) (c0 s0 : Nat) (k127 : Nat → Int32 → Mm → Prop → Int32 × Mm × Prop) (hk127 : ∀ (l0 : Nat) (l5 : Int32) (m : Mm) (o : Prop), Mh wI l E mi_X12_cow c0 s0 127 [(0, .ref l0), (5, .int l5)] [] m o (k127 l0 l5 m o)) (l0 : Nat) (l5 : Int32) (m : Mm) (o : Prop) : Mh wI l E mi_X12_cow c0 s0 127 [(0, .ref l0), (5, .int l5)] [] m o (f_X12_cow_127b k127 l0 l5 m o) := by
  refine Mh_iload 1 rfl dX12_cow_127 ?_
  refine Mh_bipush (v := 12) dX12_cow_129 (by decide) ?_
  refine Mh_icmp_ge (tgt := 156) dX12_cow_131 (by decide) rfl (fun _ => ?_) (fun _ => ?_)
  · refine Mh_aload_n 0 rfl dX12_cow_156 ?_
    refine Mh_dup dX12_cow_157 rfl ?_
    refine Mh_gI fd_11_3 fl_RX12_199 dX12_cow_158 ?_
    refine Mh_iconst (v := 1) dX12_cow_161 (by decide) ?_
    refine Mh_iadd dX12_cow_162 ?_
    refine Mh_pI fd_11_3 ft_11 rfl fl_RX12_199 rfl dX12_cow_163 ?_
    refine Mh_ok (fun h => h.2) ?_
    refine Mh_sub (lv' := [(0, .ref l0)]) [0] rfl ?_
    exact t_X12_cow_166 l E c0 s0 _ _ _
  · refine Mh_aload_n 0 rfl dX12_cow_134 ?_
    refine Mh_gR fd_11_21 fl_RX12_61 dX12_cow_135 ?_
    refine Mh_bipush (v := 16) dX12_cow_138 (by decide) ?_
    refine Mh_iload 1 rfl dX12_cow_140 ?_
    refine Mh_imul dX12_cow_142 ?_
    refine Mh_aload_n 0 rfl dX12_cow_143 ?_
    refine Mh_gI fd_11_3 fl_RX12_199 dX12_cow_144 ?_
    refine Mh_iadd dX12_cow_147 ?_
    refine Mh_iconst (v := 0) dX12_cow_148 (by decide) ?_
    refine Mh_ias dX12_cow_149 ?_
    exact t_X12_cow_150 l E c0 s0 k127 hk127 _ _ _ _
def f_X12_cow_127 : Nat → Nat → Int32 → Mm → Prop → Int32 × Mm × Prop
  | 0, _, _, m, _ => (0, m, False)
  | n + 1, l0, l5, m, o => f_X12_cow_127b (f_X12_cow_127 n) l0 l5 m o
theorem t_X12_cow_127 (l : Launch) (E : En) (c0 s0 : Nat) : ∀ (n : Nat) (l0 : Nat) (l5 : Int32) (m : Mm) (o : Prop), Mh wI l E mi_X12_cow c0 s0 127 [(0, .ref l0), (5, .int l5)] [] m o (f_X12_cow_127 n l0 l5 m o)
  | 0, _, _, _, _ => Mh_out rfl
  | n + 1, l0, l5, m, o => t_X12_cow_127b l E c0 s0 (f_X12_cow_127 n) (t_X12_cow_127 l E c0 s0 n) l0 l5 m o
def f_X12_cow_97b (k97 : Nat → Int32 → Mm → Prop → Int32 × Mm × Prop) (l0 : Nat) (l5 : Int32) (m : Mm) (o : Prop) : Int32 × Mm × Prop := if (5 : Int32) ≤ l5 then (f_X12_cow_127 1000 l0 (0 : Int32) m o) else (f_X12_cow_118 k97 l0 l5 (sI m (gR m l0 19) (ix (((5 : Int32) * (gI m l0 3)) + l5)) (0 : Int32)) (((o ∧ (gT m l0 = 12 ∧ gR m l0 19 ≠ 0)) ∧ gT m l0 = 12) ∧ (gT m (gR m l0 19) = 20 ∧ vp_in (((5 : Int32) * (gI m l0 3)) + l5) (gN m (gR m l0 19)))))
set_option maxRecDepth 10000 in
theorem t_X12_cow_97b (l : Launch) (E : En) (c0 s0 : Nat) (k97 : Nat → Int32 → Mm → Prop → Int32 × Mm × Prop) (hk97 : ∀ (l0 : Nat) (l5 : Int32) (m : Mm) (o : Prop), Mh wI l E mi_X12_cow c0 s0 97 [(0, .ref l0), (5, .int l5)] [] m o (k97 l0 l5 m o)) (l0 : Nat) (l5 : Int32) (m : Mm) (o : Prop) : Mh wI l E mi_X12_cow c0 s0 97 [(0, .ref l0), (5, .int l5)] [] m o (f_X12_cow_97b k97 l0 l5 m o) := by
  refine Mh_iload 1 rfl dX12_cow_97 ?_
  refine Mh_iconst (v := 5) dX12_cow_99 (by decide) ?_
  refine Mh_icmp_ge (tgt := 124) dX12_cow_100 (by decide) rfl (fun _ => ?_) (fun _ => ?_)
  · refine Mh_iconst (v := 0) dX12_cow_124 (by decide) ?_
    refine Mh_istore (lv' := [(5, .int (0 : Int32)), (0, .ref l0)]) dX12_cow_125 (Nat.le_of_ble_eq_true rfl) rfl ?_
    refine Mh_sub (lv' := [(0, .ref l0), (5, .int (0 : Int32))]) [1, 0] rfl ?_
    exact t_X12_cow_127 l E c0 s0 _ _ _ _ _
  · refine Mh_aload_n 0 rfl dX12_cow_103 ?_
    refine Mh_gR fd_11_19 fl_RX12_55 dX12_cow_104 ?_
    refine Mh_iconst (v := 5) dX12_cow_107 (by decide) ?_
    refine Mh_aload_n 0 rfl dX12_cow_108 ?_
    refine Mh_gI fd_11_3 fl_RX12_199 dX12_cow_109 ?_
    refine Mh_imul dX12_cow_112 ?_
    refine Mh_iload 1 rfl dX12_cow_113 ?_
    refine Mh_iadd dX12_cow_115 ?_
    refine Mh_iconst (v := 0) dX12_cow_116 (by decide) ?_
    refine Mh_ias dX12_cow_117 ?_
    exact t_X12_cow_118 l E c0 s0 k97 hk97 _ _ _ _
def f_X12_cow_97 : Nat → Nat → Int32 → Mm → Prop → Int32 × Mm × Prop
  | 0, _, _, m, _ => (0, m, False)
  | n + 1, l0, l5, m, o => f_X12_cow_97b (f_X12_cow_97 n) l0 l5 m o
theorem t_X12_cow_97 (l : Launch) (E : En) (c0 s0 : Nat) : ∀ (n : Nat) (l0 : Nat) (l5 : Int32) (m : Mm) (o : Prop), Mh wI l E mi_X12_cow c0 s0 97 [(0, .ref l0), (5, .int l5)] [] m o (f_X12_cow_97 n l0 l5 m o)
  | 0, _, _, _, _ => Mh_out rfl
  | n + 1, l0, l5, m, o => t_X12_cow_97b l E c0 s0 (f_X12_cow_97 n) (t_X12_cow_97 l E c0 s0 n) l0 l5 m o
def f_X12_cow_94 (l0 : Nat) (m : Mm) (o : Prop) : Int32 × Mm × Prop := f_X12_cow_97 1000 l0 (0 : Int32) m o
set_option maxRecDepth 10000 in
theorem t_X12_cow_94 (l : Launch) (E : En) (c0 s0 : Nat) (l0 : Nat) (m : Mm) (o : Prop) : Mh wI l E mi_X12_cow c0 s0 94 [(0, .ref l0)] [] m o (f_X12_cow_94 l0 m o) := by
  refine Mh_iconst (v := 0) dX12_cow_94 (by decide) ?_
  refine Mh_istore (lv' := [(5, .int (0 : Int32)), (0, .ref l0)]) dX12_cow_95 (Nat.le_of_ble_eq_true rfl) rfl ?_
  refine Mh_sub (lv' := [(0, .ref l0), (5, .int (0 : Int32))]) [1, 0] rfl ?_
  exact t_X12_cow_97 l E c0 s0 _ _ _ _ _
def f_X12_cow_83 (l0 : Nat) (m : Mm) (o : Prop) : Int32 × Mm × Prop := f_X12_cow_94 l0 (sI m (gR m l0 18) (ix (gI m l0 3)) (-2 : Int32)) (((o ∧ (gT m l0 = 12 ∧ gR m l0 18 ≠ 0)) ∧ gT m l0 = 12) ∧ (gT m (gR m l0 18) = 20 ∧ vp_in (gI m l0 3) (gN m (gR m l0 18))))
set_option maxRecDepth 10000 in
theorem t_X12_cow_83 (l : Launch) (E : En) (c0 s0 : Nat) (l0 : Nat) (m : Mm) (o : Prop) : Mh wI l E mi_X12_cow c0 s0 83 [(0, .ref l0)] [] m o (f_X12_cow_83 l0 m o) := by
  refine Mh_aload_n 0 rfl dX12_cow_83 ?_
  refine Mh_gR fd_11_18 fl_RX12_52 dX12_cow_84 ?_
  refine Mh_aload_n 0 rfl dX12_cow_87 ?_
  refine Mh_gI fd_11_3 fl_RX12_199 dX12_cow_88 ?_
  refine Mh_bipush (v := (-2)) dX12_cow_91 (by decide) ?_
  refine Mh_ias dX12_cow_93 ?_
  exact t_X12_cow_94 l E c0 s0 _ _ _
def f_X12_cow_72 (l0 : Nat) (l4 : Int32) (m : Mm) (o : Prop) : Int32 × Mm × Prop := f_X12_cow_83 l0 (sI m (gR m l0 17) (ix (gI m l0 3)) l4) (((o ∧ (gT m l0 = 12 ∧ gR m l0 17 ≠ 0)) ∧ gT m l0 = 12) ∧ (gT m (gR m l0 17) = 20 ∧ vp_in (gI m l0 3) (gN m (gR m l0 17))))
set_option maxRecDepth 10000 in
theorem t_X12_cow_72 (l : Launch) (E : En) (c0 s0 : Nat) (l0 : Nat) (l4 : Int32) (m : Mm) (o : Prop) : Mh wI l E mi_X12_cow c0 s0 72 [(0, .ref l0), (4, .int l4)] [] m o (f_X12_cow_72 l0 l4 m o) := by
  refine Mh_aload_n 0 rfl dX12_cow_72 ?_
  refine Mh_gR fd_11_17 fl_RX12_49 dX12_cow_73 ?_
  refine Mh_aload_n 0 rfl dX12_cow_76 ?_
  refine Mh_gI fd_11_3 fl_RX12_199 dX12_cow_77 ?_
  refine Mh_iload 1 rfl dX12_cow_80 ?_
  refine Mh_ias dX12_cow_82 ?_
  refine Mh_sub (lv' := [(0, .ref l0)]) [0] rfl ?_
  exact t_X12_cow_83 l E c0 s0 _ _ _
def f_X12_cow_71 (l0 : Nat) (l4 : Int32) (y2 : Int32) (y1 : Int32) (y0 : Nat) (m : Mm) (o : Prop) : Int32 × Mm × Prop := f_X12_cow_72 l0 l4 (sI m y0 (ix y1) y2) (o ∧ (gT m y0 = 20 ∧ vp_in y1 (gN m y0)))
set_option maxRecDepth 10000 in
theorem t_X12_cow_71 (l : Launch) (E : En) (c0 s0 : Nat) (l0 : Nat) (l4 : Int32) (y2 : Int32) (y1 : Int32) (y0 : Nat) (m : Mm) (o : Prop) : Mh wI l E mi_X12_cow c0 s0 71 [(0, .ref l0), (4, .int l4)] [.int y2, .int y1, .ref y0] m o (f_X12_cow_71 l0 l4 y2 y1 y0 m o) := by
  refine Mh_ias dX12_cow_71 ?_
  exact t_X12_cow_72 l E c0 s0 _ _ _ _
def f_X12_cow_53 (l0 : Nat) (l3 : Int32) (l4 : Int32) (m : Mm) (o : Prop) : Int32 × Mm × Prop := if l3 = 0 then (f_X12_cow_71 l0 l4 (1 : Int32) (gI m l0 3) (gR m l0 16) m ((o ∧ (gT m l0 = 12 ∧ gR m l0 16 ≠ 0)) ∧ gT m l0 = 12)) else (f_X12_cow_71 l0 l4 (9 : Int32) (gI m l0 3) (gR m l0 16) m ((o ∧ (gT m l0 = 12 ∧ gR m l0 16 ≠ 0)) ∧ gT m l0 = 12))
set_option maxRecDepth 10000 in
theorem t_X12_cow_53 (l : Launch) (E : En) (c0 s0 : Nat) (l0 : Nat) (l3 : Int32) (l4 : Int32) (m : Mm) (o : Prop) : Mh wI l E mi_X12_cow c0 s0 53 [(0, .ref l0), (3, .int l3), (4, .int l4)] [] m o (f_X12_cow_53 l0 l3 l4 m o) := by
  refine Mh_aload_n 0 rfl dX12_cow_53 ?_
  refine Mh_gR fd_11_16 fl_RX12_46 dX12_cow_54 ?_
  refine Mh_aload_n 0 rfl dX12_cow_57 ?_
  refine Mh_gI fd_11_3 fl_RX12_199 dX12_cow_58 ?_
  refine Mh_iload_n 1 rfl dX12_cow_61 ?_
  refine Mh_if_eq (tgt := 70) dX12_cow_62 (by decide) rfl (fun _ => ?_) (fun _ => ?_)
  · refine Mh_iconst (v := 1) dX12_cow_70 (by decide) ?_
    refine Mh_sub (lv' := [(0, .ref l0), (4, .int l4)]) [0, 2] rfl ?_
    exact t_X12_cow_71 l E c0 s0 _ _ _ _ _ _ _
  · refine Mh_bipush (v := 9) dX12_cow_65 (by decide) ?_
    refine Mh_goto (tgt := 71) dX12_cow_67 (by decide) ?_
    refine Mh_sub (lv' := [(0, .ref l0), (4, .int l4)]) [0, 2] rfl ?_
    exact t_X12_cow_71 l E c0 s0 _ _ _ _ _ _ _
def f_X12_cow_24 (l0 : Nat) (l1 : Int32) (l2 : Int32) (l3 : Int32) (l4 : Int32) (y0 : Int32) (m : Mm) (o : Prop) : Int32 × Mm × Prop := if y0 = 0 then (f_X12_cow_36  m o) else (if (gI m l0 3) = (16 : Int32) then (f_X12_cow_36  m (o ∧ gT m l0 = 12)) else (f_X12_cow_53 l0 l3 l4 (sI m (gR m l0 15) (ix (gI m l0 3)) (((10 : Int32) * l2) + l1)) (((o ∧ gT m l0 = 12) ∧ (gT m l0 = 12 ∧ gR m l0 15 ≠ 0)) ∧ (gT m (gR m l0 15) = 20 ∧ vp_in (gI m l0 3) (gN m (gR m l0 15))))))
set_option maxRecDepth 10000 in
theorem t_X12_cow_24 (l : Launch) (E : En) (c0 s0 : Nat) (l0 : Nat) (l1 : Int32) (l2 : Int32) (l3 : Int32) (l4 : Int32) (y0 : Int32) (m : Mm) (o : Prop) : Mh wI l E mi_X12_cow c0 s0 24 [(0, .ref l0), (1, .int l1), (2, .int l2), (3, .int l3), (4, .int l4)] [.int y0] m o (f_X12_cow_24 l0 l1 l2 l3 l4 y0 m o) := by
  refine Mh_if_eq (tgt := 36) dX12_cow_24 (by decide) rfl (fun _ => ?_) (fun _ => ?_)
  · refine Mh_sub (lv' := []) [] rfl ?_
    exact t_X12_cow_36 l E c0 s0  _ _
  · refine Mh_aload_n 0 rfl dX12_cow_27 ?_
    refine Mh_gI fd_11_3 fl_RX12_199 dX12_cow_28 ?_
    refine Mh_bipush (v := 16) dX12_cow_31 (by decide) ?_
    refine Mh_icmp_ne (tgt := 38) dX12_cow_33 (by decide) rfl (fun _ => ?_) (fun _ => ?_)
    · refine Mh_aload_n 0 rfl dX12_cow_38 ?_
      refine Mh_gR fd_11_15 fl_RX12_43 dX12_cow_39 ?_
      refine Mh_aload_n 0 rfl dX12_cow_42 ?_
      refine Mh_gI fd_11_3 fl_RX12_199 dX12_cow_43 ?_
      refine Mh_ok (fun h => h.1.2) ?_
      refine Mh_bipush (v := 10) dX12_cow_46 (by decide) ?_
      refine Mh_iload_n 2 rfl dX12_cow_48 ?_
      refine Mh_imul dX12_cow_49 ?_
      refine Mh_iload_n 1 rfl dX12_cow_50 ?_
      refine Mh_iadd dX12_cow_51 ?_
      refine Mh_ias dX12_cow_52 ?_
      refine Mh_sub (lv' := [(0, .ref l0), (3, .int l3), (4, .int l4)]) [0, 3, 4] rfl ?_
      exact t_X12_cow_53 l E c0 s0 _ _ _ _ _
    · refine Mh_sub (lv' := []) [] rfl ?_
      exact t_X12_cow_36 l E c0 s0  _ _
def f_X12_cow_11 (l0 : Nat) (l1 : Int32) (l2 : Int32) (l3 : Int32) (l4 : Int32) (y0 : Int32) (m : Mm) (o : Prop) : Int32 × Mm × Prop := if y0 = 0 then (f_X12_cow_36  m o) else (bnd (F_X12_lies (Int32.toInt64 l4) (1 : Int64) (9 : Int64) m o) (fun v1 m1 o1 => f_X12_cow_24 l0 l1 l2 l3 l4 v1 m1 o1))
set_option maxRecDepth 10000 in
theorem t_X12_cow_11 (l : Launch) (E : En) (c0 s0 : Nat) (l0 : Nat) (l1 : Int32) (l2 : Int32) (l3 : Int32) (l4 : Int32) (y0 : Int32) (m : Mm) (o : Prop) : Mh wI l E mi_X12_cow c0 s0 11 [(0, .ref l0), (1, .int l1), (2, .int l2), (3, .int l3), (4, .int l4)] [.int y0] m o (f_X12_cow_11 l0 l1 l2 l3 l4 y0 m o) := by
  refine Mh_if_eq (tgt := 36) dX12_cow_11 (by decide) rfl (fun _ => ?_) (fun _ => ?_)
  · refine Mh_sub (lv' := []) [] rfl ?_
    exact t_X12_cow_36 l E c0 s0  _ _
  · refine Mh_iload 4 rfl dX12_cow_14 ?_
    refine Mh_i2l dX12_cow_16 ?_
    refine Mh_lconst (v := 1) dX12_cow_17 (by decide) ?_
    refine Mh_ldc2 (v := 9) gl_RX12_186 dX12_cow_18 ?_
    refine Mh_csI (N := mi_X12_lies) (as := [.long (Int32.toInt64 l4), .long (1 : Int64), .long (9 : Int64)]) (st := []) cg_yX12_lies (.inl ml_RX12_188) sv_yX12_lies pd_yX12_lies rfl (by decide) (Nat.le_of_ble_eq_true rfl) rfl dX12_cow_21 (T_X12_lies l E _ _ _ _ _) rfl ?_
    exact t_X12_cow_24 l E c0 s0 _ _ _ _ _ _ _ _
def f_X12_cow_4 (l0 : Nat) (l1 : Int32) (l2 : Int32) (l3 : Int32) (l4 : Int32) (y0 : Int32) (m : Mm) (o : Prop) : Int32 × Mm × Prop := if y0 = 0 then (f_X12_cow_36  m o) else (bnd (F_X12_isSide l2 m o) (fun v1 m1 o1 => f_X12_cow_11 l0 l1 l2 l3 l4 v1 m1 o1))
set_option maxRecDepth 10000 in
theorem t_X12_cow_4 (l : Launch) (E : En) (c0 s0 : Nat) (l0 : Nat) (l1 : Int32) (l2 : Int32) (l3 : Int32) (l4 : Int32) (y0 : Int32) (m : Mm) (o : Prop) : Mh wI l E mi_X12_cow c0 s0 4 [(0, .ref l0), (1, .int l1), (2, .int l2), (3, .int l3), (4, .int l4)] [.int y0] m o (f_X12_cow_4 l0 l1 l2 l3 l4 y0 m o) := by
  refine Mh_if_eq (tgt := 36) dX12_cow_4 (by decide) rfl (fun _ => ?_) (fun _ => ?_)
  · refine Mh_sub (lv' := []) [] rfl ?_
    exact t_X12_cow_36 l E c0 s0  _ _
  · refine Mh_iload_n 2 rfl dX12_cow_7 ?_
    refine Mh_csI (N := mi_X12_isSide) (as := [.int l2]) (st := []) cg_yX12_isSide (.inl ml_RX12_206) sv_yX12_isSide pd_yX12_isSide rfl (by decide) (Nat.le_of_ble_eq_true rfl) rfl dX12_cow_8 (T_X12_isSide l E _ _ _) rfl ?_
    exact t_X12_cow_11 l E c0 s0 _ _ _ _ _ _ _ _
def f_X12_cow_0 (l0 : Nat) (l1 : Int32) (l2 : Int32) (l3 : Int32) (l4 : Int32) (m : Mm) (o : Prop) : Int32 × Mm × Prop := bnd (F_X12_isSide l1 m o) (fun v1 m1 o1 => f_X12_cow_4 l0 l1 l2 l3 l4 v1 m1 o1)
set_option maxRecDepth 10000 in
theorem t_X12_cow_0 (l : Launch) (E : En) (c0 s0 : Nat) (l0 : Nat) (l1 : Int32) (l2 : Int32) (l3 : Int32) (l4 : Int32) (m : Mm) (o : Prop) : Mh wI l E mi_X12_cow c0 s0 0 [(0, .ref l0), (1, .int l1), (2, .int l2), (3, .int l3), (4, .int l4)] [] m o (f_X12_cow_0 l0 l1 l2 l3 l4 m o) := by
  refine Mh_iload_n 1 rfl dX12_cow_0 ?_
  refine Mh_csI (N := mi_X12_isSide) (as := [.int l1]) (st := []) cg_yX12_isSide (.inl ml_RX12_206) sv_yX12_isSide pd_yX12_isSide rfl (by decide) (Nat.le_of_ble_eq_true rfl) rfl dX12_cow_1 (T_X12_isSide l E _ _ _) rfl ?_
  exact t_X12_cow_4 l E c0 s0 _ _ _ _ _ _ _ _
def F_X12_cow (a0 : Nat) (a1 : Int32) (a2 : Int32) (a3 : Int32) (a4 : Int32) (m : Mm) (o : Prop) : Int32 × Mm × Prop := f_X12_cow_0 a0 a1 a2 a3 a4 m o
theorem T_X12_cow (l : Launch) (E : En) (a0 : Nat) (a1 : Int32) (a2 : Int32) (a3 : Int32) (a4 : Int32) (m : Mm) (o : Prop) : Mt wI l E yX12_cow mi_X12_cow [.ref a0, .int a1, .int a2, .int a3, .int a4] m o (F_X12_cow a0 a1 a2 a3 a4 m o) :=
  Mt_I (by decide) rfl rfl rfl (Nat.le_of_ble_eq_true rfl) rfl (.inl rfl) (t_X12_cow_0 l E _ _ _ _ _ _ _ _ _)
def f_X12_cowIs_23 (l0 : Nat) (l1 : Int32) (l2 : Int32) (y0 : Int32) (m : Mm) (o : Prop) : Int32 × Mm × Prop := if y0 = 0 then (if l2 = 0 then (gI m (gR m l0 15) (ix l1), m, ((o ∧ (gT m l0 = 12 ∧ gR m l0 15 ≠ 0)) ∧ (gT m (gR m l0 15) = 20 ∧ vp_in l1 (gN m (gR m l0 15))))) else if l2 = 1 then (gI m (gR m l0 16) (ix l1), m, ((o ∧ (gT m l0 = 12 ∧ gR m l0 16 ≠ 0)) ∧ (gT m (gR m l0 16) = 20 ∧ vp_in l1 (gN m (gR m l0 16))))) else if l2 = 2 then (gI m (gR m l0 17) (ix l1), m, ((o ∧ (gT m l0 = 12 ∧ gR m l0 17 ≠ 0)) ∧ (gT m (gR m l0 17) = 20 ∧ vp_in l1 (gN m (gR m l0 17))))) else if l2 = 3 then (gI m (gR m l0 18) (ix l1), m, ((o ∧ (gT m l0 = 12 ∧ gR m l0 18 ≠ 0)) ∧ (gT m (gR m l0 18) = 20 ∧ vp_in l1 (gN m (gR m l0 18))))) else ((-1000 : Int32), m, o)) else (gI m (gR m l0 19) (ix ((((5 : Int32) * l1) + l2) - (10 : Int32))), m, ((o ∧ (gT m l0 = 12 ∧ gR m l0 19 ≠ 0)) ∧ (gT m (gR m l0 19) = 20 ∧ vp_in ((((5 : Int32) * l1) + l2) - (10 : Int32)) (gN m (gR m l0 19)))))
set_option maxRecDepth 10000 in
theorem t_X12_cowIs_23 (l : Launch) (E : En) (c0 s0 : Nat) (l0 : Nat) (l1 : Int32) (l2 : Int32) (y0 : Int32) (m : Mm) (o : Prop) : Mh wI l E mi_X12_cowIs c0 s0 23 [(0, .ref l0), (1, .int l1), (2, .int l2)] [.int y0] m o (f_X12_cowIs_23 l0 l1 l2 y0 m o) := by
  refine Mh_if_eq (tgt := 40) dX12_cowIs_23 (by decide) rfl (fun _ => ?_) (fun _ => ?_)
  · refine Mh_iload_n 2 rfl dX12_cowIs_40 ?_
    refine Mh_ite (C := l2 = 0) rfl (fun hs0 => ?_) (fun hs0 => ?_)
    · refine Mh_tsi (off := 31) (tgt := 72) dX12_cowIs_41 (by rw [hs0]; decide) (by rw [hs0]; decide) (by rw [hs0]; decide) (by decide) ?_
      refine Mh_aload_n 0 rfl dX12_cowIs_72 ?_
      refine Mh_gR fd_11_15 fl_RX12_43 dX12_cowIs_73 ?_
      refine Mh_iload_n 1 rfl dX12_cowIs_76 ?_
      refine Mh_ial dX12_cowIs_77 ?_
      exact Mh_ret dX12_cowIs_78 rfl (fun _ => rfl) rfl
    refine Mh_ite (C := l2 = 1) rfl (fun hs1 => ?_) (fun hs1 => ?_)
    · refine Mh_tsi (off := 38) (tgt := 79) dX12_cowIs_41 (by rw [hs1]; decide) (by rw [hs1]; decide) (by rw [hs1]; decide) (by decide) ?_
      refine Mh_aload_n 0 rfl dX12_cowIs_79 ?_
      refine Mh_gR fd_11_16 fl_RX12_46 dX12_cowIs_80 ?_
      refine Mh_iload_n 1 rfl dX12_cowIs_83 ?_
      refine Mh_ial dX12_cowIs_84 ?_
      exact Mh_ret dX12_cowIs_85 rfl (fun _ => rfl) rfl
    refine Mh_ite (C := l2 = 2) rfl (fun hs2 => ?_) (fun hs2 => ?_)
    · refine Mh_tsi (off := 45) (tgt := 86) dX12_cowIs_41 (by rw [hs2]; decide) (by rw [hs2]; decide) (by rw [hs2]; decide) (by decide) ?_
      refine Mh_aload_n 0 rfl dX12_cowIs_86 ?_
      refine Mh_gR fd_11_17 fl_RX12_49 dX12_cowIs_87 ?_
      refine Mh_iload_n 1 rfl dX12_cowIs_90 ?_
      refine Mh_ial dX12_cowIs_91 ?_
      exact Mh_ret dX12_cowIs_92 rfl (fun _ => rfl) rfl
    refine Mh_ite (C := l2 = 3) rfl (fun hs3 => ?_) (fun hs3 => ?_)
    · refine Mh_tsi (off := 52) (tgt := 93) dX12_cowIs_41 (by rw [hs3]; decide) (by rw [hs3]; decide) (by rw [hs3]; decide) (by decide) ?_
      refine Mh_aload_n 0 rfl dX12_cowIs_93 ?_
      refine Mh_gR fd_11_18 fl_RX12_52 dX12_cowIs_94 ?_
      refine Mh_iload_n 1 rfl dX12_cowIs_97 ?_
      refine Mh_ial dX12_cowIs_98 ?_
      exact Mh_ret dX12_cowIs_99 rfl (fun _ => rfl) rfl
    refine Mh_tsd (tgt := 100) [0, 1, 2, 3] dX12_cowIs_41 (by decide) (by decide) (List.forall_mem_cons.mpr ⟨lv_neT hs0 (by decide), List.forall_mem_cons.mpr ⟨lv_neT hs1 (by decide), List.forall_mem_cons.mpr ⟨lv_neT hs2 (by decide), List.forall_mem_cons.mpr ⟨lv_neT hs3 (by decide), fun _ h => absurd h List.not_mem_nil⟩⟩⟩⟩) (by decide) ?_
    refine Mh_sipush (v := (-1000)) dX12_cowIs_100 (by decide) ?_
    exact Mh_ret dX12_cowIs_103 rfl (fun _ => rfl) rfl
  · refine Mh_aload_n 0 rfl dX12_cowIs_26 ?_
    refine Mh_gR fd_11_19 fl_RX12_55 dX12_cowIs_27 ?_
    refine Mh_iconst (v := 5) dX12_cowIs_30 (by decide) ?_
    refine Mh_iload_n 1 rfl dX12_cowIs_31 ?_
    refine Mh_imul dX12_cowIs_32 ?_
    refine Mh_iload_n 2 rfl dX12_cowIs_33 ?_
    refine Mh_iadd dX12_cowIs_34 ?_
    refine Mh_bipush (v := 10) dX12_cowIs_35 (by decide) ?_
    refine Mh_isub dX12_cowIs_37 ?_
    refine Mh_ial dX12_cowIs_38 ?_
    exact Mh_ret dX12_cowIs_39 rfl (fun _ => rfl) rfl
def f_X12_cowIs_5 (l0 : Nat) (l1 : Int32) (l2 : Int32) (y0 : Int32) (m : Mm) (o : Prop) : Int32 × Mm × Prop := if y0 = 0 then ((-1000 : Int32), m, o) else (bnd (F_X12_lies (Int32.toInt64 l2) (10 : Int64) (14 : Int64) m o) (fun v1 m1 o1 => f_X12_cowIs_23 l0 l1 l2 v1 m1 o1))
set_option maxRecDepth 10000 in
theorem t_X12_cowIs_5 (l : Launch) (E : En) (c0 s0 : Nat) (l0 : Nat) (l1 : Int32) (l2 : Int32) (y0 : Int32) (m : Mm) (o : Prop) : Mh wI l E mi_X12_cowIs c0 s0 5 [(0, .ref l0), (1, .int l1), (2, .int l2)] [.int y0] m o (f_X12_cowIs_5 l0 l1 l2 y0 m o) := by
  refine Mh_if_ne (tgt := 12) dX12_cowIs_5 (by decide) rfl (fun _ => ?_) (fun _ => ?_)
  · refine Mh_iload_n 2 rfl dX12_cowIs_12 ?_
    refine Mh_i2l dX12_cowIs_13 ?_
    refine Mh_ldc2 (v := 10) gl_RX12_409 dX12_cowIs_14 ?_
    refine Mh_ldc2 (v := 14) gl_RX12_423 dX12_cowIs_17 ?_
    refine Mh_csI (N := mi_X12_lies) (as := [.long (Int32.toInt64 l2), .long (10 : Int64), .long (14 : Int64)]) (st := []) cg_yX12_lies (.inl ml_RX12_188) sv_yX12_lies pd_yX12_lies rfl (by decide) (Nat.le_of_ble_eq_true rfl) rfl dX12_cowIs_20 (T_X12_lies l E _ _ _ _ _) rfl ?_
    exact t_X12_cowIs_23 l E c0 s0 _ _ _ _ _ _
  · refine Mh_sipush (v := (-1000)) dX12_cowIs_8 (by decide) ?_
    exact Mh_ret dX12_cowIs_11 rfl (fun _ => rfl) rfl
def f_X12_cowIs_0 (l0 : Nat) (l1 : Int32) (l2 : Int32) (m : Mm) (o : Prop) : Int32 × Mm × Prop := bnd (F_X12_isCow l0 l1 m (o ∧ gT m l0 = 12)) (fun v1 m1 o1 => f_X12_cowIs_5 l0 l1 l2 v1 m1 o1)
set_option maxRecDepth 10000 in
theorem t_X12_cowIs_0 (l : Launch) (E : En) (c0 s0 : Nat) (l0 : Nat) (l1 : Int32) (l2 : Int32) (m : Mm) (o : Prop) : Mh wI l E mi_X12_cowIs c0 s0 0 [(0, .ref l0), (1, .int l1), (2, .int l2)] [] m o (f_X12_cowIs_0 l0 l1 l2 m o) := by
  refine Mh_aload_n 0 rfl dX12_cowIs_0 ?_
  refine Mh_iload_n 1 rfl dX12_cowIs_1 ?_
  refine Mh_cvI (N := mi_X12_isCow) (q := l0) (ci := 11) (as := [.int l1]) (st := []) (id) cg_yX12_isCow (by decide) rfl rfl ml_RX12_217 iv_yX12_isCow pd_yX12_isCow rfl (by decide) (Nat.le_of_ble_eq_true rfl) rfl dX12_cowIs_2 (T_X12_isCow l E _ _ _ _) rfl ?_
  exact t_X12_cowIs_5 l E c0 s0 _ _ _ _ _ _
def F_X12_cowIs (a0 : Nat) (a1 : Int32) (a2 : Int32) (m : Mm) (o : Prop) : Int32 × Mm × Prop := f_X12_cowIs_0 a0 a1 a2 m o
theorem T_X12_cowIs (l : Launch) (E : En) (a0 : Nat) (a1 : Int32) (a2 : Int32) (m : Mm) (o : Prop) : Mt wI l E yX12_cowIs mi_X12_cowIs [.ref a0, .int a1, .int a2] m o (F_X12_cowIs a0 a1 a2 m o) :=
  Mt_I (by decide) rfl rfl rfl (Nat.le_of_ble_eq_true rfl) rfl (.inl rfl) (t_X12_cowIs_0 l E _ _ _ _ _ _ _)
def f_X12_seatOf_17 (k3 : Nat → Int32 → Int32 → Int32 → Int32 → Mm → Prop → Int32 × Mm × Prop) (l0 : Nat) (l1 : Int32) (l2 : Int32) (l3 : Int32) (l4 : Int32) (m : Mm) (o : Prop) : Int32 × Mm × Prop := k3 l0 l1 l2 l3 (l4 + 1) m o
set_option maxRecDepth 10000 in
theorem t_X12_seatOf_17 (l : Launch) (E : En) (c0 s0 : Nat) (k3 : Nat → Int32 → Int32 → Int32 → Int32 → Mm → Prop → Int32 × Mm × Prop) (hk3 : ∀ (l0 : Nat) (l1 : Int32) (l2 : Int32) (l3 : Int32) (l4 : Int32) (m : Mm) (o : Prop), Mh wI l E mi_X12_seatOf c0 s0 3 [(0, .ref l0), (1, .int l1), (2, .int l2), (3, .int l3), (4, .int l4)] [] m o (k3 l0 l1 l2 l3 l4 m o)) (l0 : Nat) (l1 : Int32) (l2 : Int32) (l3 : Int32) (l4 : Int32) (m : Mm) (o : Prop) : Mh wI l E mi_X12_seatOf c0 s0 17 [(0, .ref l0), (1, .int l1), (2, .int l2), (3, .int l3), (4, .int l4)] [] m o (f_X12_seatOf_17 k3 l0 l1 l2 l3 l4 m o) := by
  refine Mh_iinc (v := l4 + 1) (lv' := [(4, .int (l4 + 1)), (0, .ref l0), (1, .int l1), (2, .int l2), (3, .int l3)]) 4 dX12_seatOf_17 rfl rfl (Nat.le_of_ble_eq_true rfl) rfl ?_
  refine Mh_goto (tgt := 3) dX12_seatOf_20 (by decide) ?_
  refine Mh_sub (lv' := [(0, .ref l0), (1, .int l1), (2, .int l2), (3, .int l3), (4, .int (l4 + 1))]) [1, 2, 3, 4, 0] rfl ?_
  exact hk3 _ _ _ _ _ _ _
def f_X12_seatOf_114 (k26 : Nat → Int32 → Int32 → Int32 → Int32 → Mm → Prop → Int32 × Mm × Prop) (l0 : Nat) (l1 : Int32) (l2 : Int32) (l3 : Int32) (l4 : Int32) (m : Mm) (o : Prop) : Int32 × Mm × Prop := k26 l0 l1 l2 l3 (l4 + 1) m o
set_option maxRecDepth 10000 in
theorem t_X12_seatOf_114 (l : Launch) (E : En) (c0 s0 : Nat) (k26 : Nat → Int32 → Int32 → Int32 → Int32 → Mm → Prop → Int32 × Mm × Prop) (hk26 : ∀ (l0 : Nat) (l1 : Int32) (l2 : Int32) (l3 : Int32) (l4 : Int32) (m : Mm) (o : Prop), Mh wI l E mi_X12_seatOf c0 s0 26 [(0, .ref l0), (1, .int l1), (2, .int l2), (3, .int l3), (4, .int l4)] [] m o (k26 l0 l1 l2 l3 l4 m o)) (l0 : Nat) (l1 : Int32) (l2 : Int32) (l3 : Int32) (l4 : Int32) (m : Mm) (o : Prop) : Mh wI l E mi_X12_seatOf c0 s0 114 [(0, .ref l0), (1, .int l1), (2, .int l2), (3, .int l3), (4, .int l4)] [] m o (f_X12_seatOf_114 k26 l0 l1 l2 l3 l4 m o) := by
  refine Mh_iinc (v := l4 + 1) (lv' := [(4, .int (l4 + 1)), (0, .ref l0), (1, .int l1), (2, .int l2), (3, .int l3)]) 4 dX12_seatOf_114 rfl rfl (Nat.le_of_ble_eq_true rfl) rfl ?_
  refine Mh_goto (tgt := 26) dX12_seatOf_117 (by decide) ?_
  refine Mh_sub (lv' := [(0, .ref l0), (1, .int l1), (2, .int l2), (3, .int l3), (4, .int (l4 + 1))]) [1, 2, 3, 4, 0] rfl ?_
  exact hk26 _ _ _ _ _ _ _
def f_X12_seatOf_73 (k26 : Nat → Int32 → Int32 → Int32 → Int32 → Mm → Prop → Int32 × Mm × Prop) (l0 : Nat) (l1 : Int32) (l2 : Int32) (l3 : Int32) (l4 : Int32) (y1 : Int32) (y0 : Int32) (m : Mm) (o : Prop) : Int32 × Mm × Prop := if (y0 + y1) = l1 then (if (gI m (gR m l0 18) (ix l4)) < 0 then (f_X12_seatOf_114 k26 l0 l1 l2 l3 l4 m ((o ∧ (gT m l0 = 12 ∧ gR m l0 18 ≠ 0)) ∧ (gT m (gR m l0 18) = 20 ∧ vp_in l4 (gN m (gR m l0 18))))) else (f_X12_seatOf_114 k26 l0 l1 l2 l3 l4 (sI m (gR m l0 71) (ix (gI m (gR m l0 18) (ix l4))) ((gI m (gR m l0 71) (ix (gI m (gR m l0 18) (ix l4)))) + (gI m (gR m l0 16) (ix l4)))) ((((((o ∧ (gT m l0 = 12 ∧ gR m l0 18 ≠ 0)) ∧ (gT m (gR m l0 18) = 20 ∧ vp_in l4 (gN m (gR m l0 18)))) ∧ (gT m l0 = 12 ∧ gR m l0 71 ≠ 0)) ∧ (gT m (gR m l0 71) = 20 ∧ vp_in (gI m (gR m l0 18) (ix l4)) (gN m (gR m l0 71)))) ∧ (gT m l0 = 12 ∧ gR m l0 16 ≠ 0)) ∧ (gT m (gR m l0 16) = 20 ∧ vp_in l4 (gN m (gR m l0 16)))))) else (f_X12_seatOf_114 k26 l0 l1 l2 l3 l4 m o)
set_option maxRecDepth 10000 in
theorem t_X12_seatOf_73 (l : Launch) (E : En) (c0 s0 : Nat) (k26 : Nat → Int32 → Int32 → Int32 → Int32 → Mm → Prop → Int32 × Mm × Prop) (hk26 : ∀ (l0 : Nat) (l1 : Int32) (l2 : Int32) (l3 : Int32) (l4 : Int32) (m : Mm) (o : Prop), Mh wI l E mi_X12_seatOf c0 s0 26 [(0, .ref l0), (1, .int l1), (2, .int l2), (3, .int l3), (4, .int l4)] [] m o (k26 l0 l1 l2 l3 l4 m o)) (l0 : Nat) (l1 : Int32) (l2 : Int32) (l3 : Int32) (l4 : Int32) (y1 : Int32) (y0 : Int32) (m : Mm) (o : Prop) : Mh wI l E mi_X12_seatOf c0 s0 73 [(0, .ref l0), (1, .int l1), (2, .int l2), (3, .int l3), (4, .int l4)] [.int y1, .int y0] m o (f_X12_seatOf_73 k26 l0 l1 l2 l3 l4 y1 y0 m o) := by
  refine Mh_iadd dX12_seatOf_73 ?_
  refine Mh_istore (lv' := [(5, .int (y0 + y1)), (0, .ref l0), (1, .int l1), (2, .int l2), (3, .int l3), (4, .int l4)]) dX12_seatOf_74 (Nat.le_of_ble_eq_true rfl) rfl ?_
  refine Mh_iload 0 rfl dX12_seatOf_76 ?_
  refine Mh_iload_n 2 rfl dX12_seatOf_78 ?_
  refine Mh_icmp_ne (tgt := 114) dX12_seatOf_79 (by decide) rfl (fun _ => ?_) (fun _ => ?_)
  · refine Mh_sub (lv' := [(0, .ref l0), (1, .int l1), (2, .int l2), (3, .int l3), (4, .int l4)]) [1, 2, 3, 4, 5] rfl ?_
    exact t_X12_seatOf_114 l E c0 s0 k26 hk26 _ _ _ _ _ _ _
  · refine Mh_aload_n 1 rfl dX12_seatOf_82 ?_
    refine Mh_gR fd_11_18 fl_RX12_52 dX12_seatOf_83 ?_
    refine Mh_iload 5 rfl dX12_seatOf_86 ?_
    refine Mh_ial dX12_seatOf_88 ?_
    refine Mh_if_lt (tgt := 114) dX12_seatOf_89 (by decide) rfl (fun _ => ?_) (fun _ => ?_)
    · refine Mh_sub (lv' := [(0, .ref l0), (1, .int l1), (2, .int l2), (3, .int l3), (4, .int l4)]) [1, 2, 3, 4, 5] rfl ?_
      exact t_X12_seatOf_114 l E c0 s0 k26 hk26 _ _ _ _ _ _ _
    · refine Mh_aload_n 1 rfl dX12_seatOf_92 ?_
      refine Mh_gR fd_11_71 fl_RX12_167 dX12_seatOf_93 ?_
      refine Mh_aload_n 1 rfl dX12_seatOf_96 ?_
      refine Mh_gR fd_11_18 fl_RX12_52 dX12_seatOf_97 ?_
      refine Mh_ok (fun h => h.1.1.2) ?_
      refine Mh_iload 5 rfl dX12_seatOf_100 ?_
      refine Mh_ial dX12_seatOf_102 ?_
      refine Mh_ok (fun h => h.1.2) ?_
      refine Mh_dup2 dX12_seatOf_103 rfl rfl ?_
      refine Mh_ial dX12_seatOf_104 ?_
      refine Mh_aload_n 1 rfl dX12_seatOf_105 ?_
      refine Mh_gR fd_11_16 fl_RX12_46 dX12_seatOf_106 ?_
      refine Mh_iload 5 rfl dX12_seatOf_109 ?_
      refine Mh_ial dX12_seatOf_111 ?_
      refine Mh_iadd dX12_seatOf_112 ?_
      refine Mh_ias dX12_seatOf_113 ?_
      refine Mh_ok (fun h => h.1.1.2) ?_
      refine Mh_sub (lv' := [(0, .ref l0), (1, .int l1), (2, .int l2), (3, .int l3), (4, .int l4)]) [1, 2, 3, 4, 5] rfl ?_
      exact t_X12_seatOf_114 l E c0 s0 k26 hk26 _ _ _ _ _ _ _
def f_X12_seatOf_54 (k26 : Nat → Int32 → Int32 → Int32 → Int32 → Mm → Prop → Int32 × Mm × Prop) (l0 : Nat) (l1 : Int32) (l2 : Int32) (l3 : Int32) (l4 : Int32) (y0 : Int32) (m : Mm) (o : Prop) : Int32 × Mm × Prop := if l2 ≤ (irm (gI m (gR m l0 15) (ix l4)) (10 : Int32)) then (f_X12_seatOf_73 k26 l0 l1 l2 l3 l4 (1 : Int32) y0 m ((o ∧ (gT m l0 = 12 ∧ gR m l0 15 ≠ 0)) ∧ (gT m (gR m l0 15) = 20 ∧ vp_in l4 (gN m (gR m l0 15))))) else (f_X12_seatOf_73 k26 l0 l1 l2 l3 l4 (0 : Int32) y0 m ((o ∧ (gT m l0 = 12 ∧ gR m l0 15 ≠ 0)) ∧ (gT m (gR m l0 15) = 20 ∧ vp_in l4 (gN m (gR m l0 15)))))
set_option maxRecDepth 10000 in
theorem t_X12_seatOf_54 (l : Launch) (E : En) (c0 s0 : Nat) (k26 : Nat → Int32 → Int32 → Int32 → Int32 → Mm → Prop → Int32 × Mm × Prop) (hk26 : ∀ (l0 : Nat) (l1 : Int32) (l2 : Int32) (l3 : Int32) (l4 : Int32) (m : Mm) (o : Prop), Mh wI l E mi_X12_seatOf c0 s0 26 [(0, .ref l0), (1, .int l1), (2, .int l2), (3, .int l3), (4, .int l4)] [] m o (k26 l0 l1 l2 l3 l4 m o)) (l0 : Nat) (l1 : Int32) (l2 : Int32) (l3 : Int32) (l4 : Int32) (y0 : Int32) (m : Mm) (o : Prop) : Mh wI l E mi_X12_seatOf c0 s0 54 [(0, .ref l0), (1, .int l1), (2, .int l2), (3, .int l3), (4, .int l4)] [.int y0] m o (f_X12_seatOf_54 k26 l0 l1 l2 l3 l4 y0 m o) := by
  refine Mh_aload_n 0 rfl dX12_seatOf_54 ?_
  refine Mh_gR fd_11_15 fl_RX12_43 dX12_seatOf_55 ?_
  refine Mh_iload 4 rfl dX12_seatOf_58 ?_
  refine Mh_ial dX12_seatOf_60 ?_
  refine Mh_bipush (v := 10) dX12_seatOf_61 (by decide) ?_
  refine Mh_irem dX12_seatOf_63 ?_
  refine Mh_ok (fun _ => by decide) ?_
  refine Mh_iload_n 2 rfl dX12_seatOf_64 ?_
  refine Mh_icmp_ge (tgt := 72) dX12_seatOf_65 (by decide) rfl (fun _ => ?_) (fun _ => ?_)
  · refine Mh_iconst (v := 1) dX12_seatOf_72 (by decide) ?_
    exact t_X12_seatOf_73 l E c0 s0 k26 hk26 _ _ _ _ _ _ _ _ _
  · refine Mh_iconst (v := 0) dX12_seatOf_68 (by decide) ?_
    refine Mh_goto (tgt := 73) dX12_seatOf_69 (by decide) ?_
    exact t_X12_seatOf_73 l E c0 s0 k26 hk26 _ _ _ _ _ _ _ _ _
def f_X12_seatOf_164 (k130 : Nat → Int32 → Int32 → Int32 → Mm → Prop → Int32 × Mm × Prop) (l0 : Nat) (l4 : Int32) (l5 : Int32) (l6 : Int32) (m : Mm) (o : Prop) : Int32 × Mm × Prop := k130 l0 l4 l5 (l6 + 1) m o
set_option maxRecDepth 10000 in
theorem t_X12_seatOf_164 (l : Launch) (E : En) (c0 s0 : Nat) (k130 : Nat → Int32 → Int32 → Int32 → Mm → Prop → Int32 × Mm × Prop) (hk130 : ∀ (l0 : Nat) (l4 : Int32) (l5 : Int32) (l6 : Int32) (m : Mm) (o : Prop), Mh wI l E mi_X12_seatOf c0 s0 130 [(0, .ref l0), (4, .int l4), (5, .int l5), (6, .int l6)] [] m o (k130 l0 l4 l5 l6 m o)) (l0 : Nat) (l4 : Int32) (l5 : Int32) (l6 : Int32) (m : Mm) (o : Prop) : Mh wI l E mi_X12_seatOf c0 s0 164 [(0, .ref l0), (4, .int l4), (5, .int l5), (6, .int l6)] [] m o (f_X12_seatOf_164 k130 l0 l4 l5 l6 m o) := by
  refine Mh_iinc (v := l6 + 1) (lv' := [(6, .int (l6 + 1)), (0, .ref l0), (4, .int l4), (5, .int l5)]) 3 dX12_seatOf_164 rfl rfl (Nat.le_of_ble_eq_true rfl) rfl ?_
  refine Mh_goto (tgt := 130) dX12_seatOf_167 (by decide) ?_
  refine Mh_sub (lv' := [(0, .ref l0), (4, .int l4), (5, .int l5), (6, .int (l6 + 1))]) [1, 2, 3, 0] rfl ?_
  exact hk130 _ _ _ _ _ _
def f_X12_seatOf_130b (k130 : Nat → Int32 → Int32 → Int32 → Mm → Prop → Int32 × Mm × Prop) (l0 : Nat) (l4 : Int32) (l5 : Int32) (l6 : Int32) (m : Mm) (o : Prop) : Int32 × Mm × Prop := if (5 : Int32) ≤ l6 then (l4, m, o) else (if l5 < (gI m (gR m l0 71) (ix l6)) then (f_X12_seatOf_164 k130 l0 l6 (gI m (gR m l0 71) (ix l6)) l6 m ((o ∧ (gT m l0 = 12 ∧ gR m l0 71 ≠ 0)) ∧ (gT m (gR m l0 71) = 20 ∧ vp_in l6 (gN m (gR m l0 71))))) else (f_X12_seatOf_164 k130 l0 l4 l5 l6 m ((o ∧ (gT m l0 = 12 ∧ gR m l0 71 ≠ 0)) ∧ (gT m (gR m l0 71) = 20 ∧ vp_in l6 (gN m (gR m l0 71))))))
set_option maxRecDepth 10000 in
theorem t_X12_seatOf_130b (l : Launch) (E : En) (c0 s0 : Nat) (k130 : Nat → Int32 → Int32 → Int32 → Mm → Prop → Int32 × Mm × Prop) (hk130 : ∀ (l0 : Nat) (l4 : Int32) (l5 : Int32) (l6 : Int32) (m : Mm) (o : Prop), Mh wI l E mi_X12_seatOf c0 s0 130 [(0, .ref l0), (4, .int l4), (5, .int l5), (6, .int l6)] [] m o (k130 l0 l4 l5 l6 m o)) (l0 : Nat) (l4 : Int32) (l5 : Int32) (l6 : Int32) (m : Mm) (o : Prop) : Mh wI l E mi_X12_seatOf c0 s0 130 [(0, .ref l0), (4, .int l4), (5, .int l5), (6, .int l6)] [] m o (f_X12_seatOf_130b k130 l0 l4 l5 l6 m o) := by
  refine Mh_iload 3 rfl dX12_seatOf_130 ?_
  refine Mh_iconst (v := 5) dX12_seatOf_132 (by decide) ?_
  refine Mh_icmp_ge (tgt := 170) dX12_seatOf_133 (by decide) rfl (fun _ => ?_) (fun _ => ?_)
  · refine Mh_iload 1 rfl dX12_seatOf_170 ?_
    exact Mh_ret dX12_seatOf_172 rfl (fun _ => rfl) rfl
  · refine Mh_aload_n 0 rfl dX12_seatOf_136 ?_
    refine Mh_gR fd_11_71 fl_RX12_167 dX12_seatOf_137 ?_
    refine Mh_iload 3 rfl dX12_seatOf_140 ?_
    refine Mh_ial dX12_seatOf_142 ?_
    refine Mh_iload 2 rfl dX12_seatOf_143 ?_
    refine Mh_icmp_gt (tgt := 151) dX12_seatOf_145 (by decide) rfl (fun _ => ?_) (fun _ => ?_)
    · refine Mh_iload 3 rfl dX12_seatOf_151 ?_
      refine Mh_istore (lv' := [(4, .int l6), (0, .ref l0), (5, .int l5), (6, .int l6)]) dX12_seatOf_153 (Nat.le_of_ble_eq_true rfl) rfl ?_
      refine Mh_aload_n 1 rfl dX12_seatOf_155 ?_
      refine Mh_gR fd_11_71 fl_RX12_167 dX12_seatOf_156 ?_
      refine Mh_ok (fun h => h.1.2) ?_
      refine Mh_iload 3 rfl dX12_seatOf_159 ?_
      refine Mh_ial dX12_seatOf_161 ?_
      refine Mh_ok (fun h => h.2) ?_
      refine Mh_istore (lv' := [(5, .int (gI m (gR m l0 71) (ix l6))), (4, .int l6), (0, .ref l0), (6, .int l6)]) dX12_seatOf_162 (Nat.le_of_ble_eq_true rfl) rfl ?_
      refine Mh_sub (lv' := [(0, .ref l0), (4, .int l6), (5, .int (gI m (gR m l0 71) (ix l6))), (6, .int l6)]) [2, 1, 0, 3] rfl ?_
      exact t_X12_seatOf_164 l E c0 s0 k130 hk130 _ _ _ _ _ _
    · refine Mh_goto (tgt := 164) dX12_seatOf_148 (by decide) ?_
      exact t_X12_seatOf_164 l E c0 s0 k130 hk130 _ _ _ _ _ _
def f_X12_seatOf_130 : Nat → Nat → Int32 → Int32 → Int32 → Mm → Prop → Int32 × Mm × Prop
  | 0, _, _, _, _, m, _ => (0, m, False)
  | n + 1, l0, l4, l5, l6, m, o => f_X12_seatOf_130b (f_X12_seatOf_130 n) l0 l4 l5 l6 m o
theorem t_X12_seatOf_130 (l : Launch) (E : En) (c0 s0 : Nat) : ∀ (n : Nat) (l0 : Nat) (l4 : Int32) (l5 : Int32) (l6 : Int32) (m : Mm) (o : Prop), Mh wI l E mi_X12_seatOf c0 s0 130 [(0, .ref l0), (4, .int l4), (5, .int l5), (6, .int l6)] [] m o (f_X12_seatOf_130 n l0 l4 l5 l6 m o)
  | 0, _, _, _, _, _, _ => Mh_out rfl
  | n + 1, l0, l4, l5, l6, m, o => t_X12_seatOf_130b l E c0 s0 (f_X12_seatOf_130 n) (t_X12_seatOf_130 l E c0 s0 n) l0 l4 l5 l6 m o
def f_X12_seatOf_26b (k26 : Nat → Int32 → Int32 → Int32 → Int32 → Mm → Prop → Int32 × Mm × Prop) (l0 : Nat) (l1 : Int32) (l2 : Int32) (l3 : Int32) (l4 : Int32) (m : Mm) (o : Prop) : Int32 × Mm × Prop := if (gI m l0 3) ≤ l4 then (f_X12_seatOf_130 1000 l0 (-2 : Int32) (0 : Int32) (0 : Int32) m (o ∧ gT m l0 = 12)) else (if l3 ≤ ((gI m (gR m l0 15) (ix l4)) / (10 : Int32)) then (f_X12_seatOf_54 k26 l0 l1 l2 l3 l4 (2 : Int32) m (((o ∧ gT m l0 = 12) ∧ (gT m l0 = 12 ∧ gR m l0 15 ≠ 0)) ∧ (gT m (gR m l0 15) = 20 ∧ vp_in l4 (gN m (gR m l0 15))))) else (f_X12_seatOf_54 k26 l0 l1 l2 l3 l4 (0 : Int32) m (((o ∧ gT m l0 = 12) ∧ (gT m l0 = 12 ∧ gR m l0 15 ≠ 0)) ∧ (gT m (gR m l0 15) = 20 ∧ vp_in l4 (gN m (gR m l0 15))))))
set_option maxRecDepth 10000 in
theorem t_X12_seatOf_26b (l : Launch) (E : En) (c0 s0 : Nat) (k26 : Nat → Int32 → Int32 → Int32 → Int32 → Mm → Prop → Int32 × Mm × Prop) (hk26 : ∀ (l0 : Nat) (l1 : Int32) (l2 : Int32) (l3 : Int32) (l4 : Int32) (m : Mm) (o : Prop), Mh wI l E mi_X12_seatOf c0 s0 26 [(0, .ref l0), (1, .int l1), (2, .int l2), (3, .int l3), (4, .int l4)] [] m o (k26 l0 l1 l2 l3 l4 m o)) (l0 : Nat) (l1 : Int32) (l2 : Int32) (l3 : Int32) (l4 : Int32) (m : Mm) (o : Prop) : Mh wI l E mi_X12_seatOf c0 s0 26 [(0, .ref l0), (1, .int l1), (2, .int l2), (3, .int l3), (4, .int l4)] [] m o (f_X12_seatOf_26b k26 l0 l1 l2 l3 l4 m o) := by
  refine Mh_iload 4 rfl dX12_seatOf_26 ?_
  refine Mh_aload_n 0 rfl dX12_seatOf_28 ?_
  refine Mh_gI fd_11_3 fl_RX12_199 dX12_seatOf_29 ?_
  refine Mh_icmp_ge (tgt := 120) dX12_seatOf_32 (by decide) rfl (fun _ => ?_) (fun _ => ?_)
  · refine Mh_bipush (v := (-2)) dX12_seatOf_120 (by decide) ?_
    refine Mh_istore (lv' := [(4, .int (-2 : Int32)), (0, .ref l0), (1, .int l1), (2, .int l2), (3, .int l3)]) dX12_seatOf_122 (Nat.le_of_ble_eq_true rfl) rfl ?_
    refine Mh_iconst (v := 0) dX12_seatOf_124 (by decide) ?_
    refine Mh_istore (lv' := [(5, .int (0 : Int32)), (4, .int (-2 : Int32)), (0, .ref l0), (1, .int l1), (2, .int l2), (3, .int l3)]) dX12_seatOf_125 (Nat.le_of_ble_eq_true rfl) rfl ?_
    refine Mh_iconst (v := 0) dX12_seatOf_127 (by decide) ?_
    refine Mh_istore (lv' := [(6, .int (0 : Int32)), (5, .int (0 : Int32)), (4, .int (-2 : Int32)), (0, .ref l0), (1, .int l1), (2, .int l2), (3, .int l3)]) dX12_seatOf_128 (Nat.le_of_ble_eq_true rfl) rfl ?_
    refine Mh_sub (lv' := [(0, .ref l0), (4, .int (-2 : Int32)), (5, .int (0 : Int32)), (6, .int (0 : Int32))]) [3, 2, 1, 0] rfl ?_
    exact t_X12_seatOf_130 l E c0 s0 _ _ _ _ _ _ _
  · refine Mh_aload_n 0 rfl dX12_seatOf_35 ?_
    refine Mh_gR fd_11_15 fl_RX12_43 dX12_seatOf_36 ?_
    refine Mh_iload 4 rfl dX12_seatOf_39 ?_
    refine Mh_ial dX12_seatOf_41 ?_
    refine Mh_bipush (v := 10) dX12_seatOf_42 (by decide) ?_
    refine Mh_idiv dX12_seatOf_44 ?_
    refine Mh_ok (fun _ => by decide) ?_
    refine Mh_iload_n 3 rfl dX12_seatOf_45 ?_
    refine Mh_icmp_ge (tgt := 53) dX12_seatOf_46 (by decide) rfl (fun _ => ?_) (fun _ => ?_)
    · refine Mh_iconst (v := 2) dX12_seatOf_53 (by decide) ?_
      exact t_X12_seatOf_54 l E c0 s0 k26 hk26 _ _ _ _ _ _ _ _
    · refine Mh_iconst (v := 0) dX12_seatOf_49 (by decide) ?_
      refine Mh_goto (tgt := 54) dX12_seatOf_50 (by decide) ?_
      exact t_X12_seatOf_54 l E c0 s0 k26 hk26 _ _ _ _ _ _ _ _
def f_X12_seatOf_26 : Nat → Nat → Int32 → Int32 → Int32 → Int32 → Mm → Prop → Int32 × Mm × Prop
  | 0, _, _, _, _, _, m, _ => (0, m, False)
  | n + 1, l0, l1, l2, l3, l4, m, o => f_X12_seatOf_26b (f_X12_seatOf_26 n) l0 l1 l2 l3 l4 m o
theorem t_X12_seatOf_26 (l : Launch) (E : En) (c0 s0 : Nat) : ∀ (n : Nat) (l0 : Nat) (l1 : Int32) (l2 : Int32) (l3 : Int32) (l4 : Int32) (m : Mm) (o : Prop), Mh wI l E mi_X12_seatOf c0 s0 26 [(0, .ref l0), (1, .int l1), (2, .int l2), (3, .int l3), (4, .int l4)] [] m o (f_X12_seatOf_26 n l0 l1 l2 l3 l4 m o)
  | 0, _, _, _, _, _, _, _ => Mh_out rfl
  | n + 1, l0, l1, l2, l3, l4, m, o => t_X12_seatOf_26b l E c0 s0 (f_X12_seatOf_26 n) (t_X12_seatOf_26 l E c0 s0 n) l0 l1 l2 l3 l4 m o
def f_X12_seatOf_3b (k3 : Nat → Int32 → Int32 → Int32 → Int32 → Mm → Prop → Int32 × Mm × Prop) (l0 : Nat) (l1 : Int32) (l2 : Int32) (l3 : Int32) (l4 : Int32) (m : Mm) (o : Prop) : Int32 × Mm × Prop := if (5 : Int32) ≤ l4 then (f_X12_seatOf_26 1000 l0 l1 l2 l3 (0 : Int32) m o) else (f_X12_seatOf_17 k3 l0 l1 l2 l3 l4 (sI m (gR m l0 71) (ix l4) (0 : Int32)) ((o ∧ (gT m l0 = 12 ∧ gR m l0 71 ≠ 0)) ∧ (gT m (gR m l0 71) = 20 ∧ vp_in l4 (gN m (gR m l0 71)))))
set_option maxRecDepth 10000 in
theorem t_X12_seatOf_3b (l : Launch) (E : En) (c0 s0 : Nat) (k3 : Nat → Int32 → Int32 → Int32 → Int32 → Mm → Prop → Int32 × Mm × Prop) (hk3 : ∀ (l0 : Nat) (l1 : Int32) (l2 : Int32) (l3 : Int32) (l4 : Int32) (m : Mm) (o : Prop), Mh wI l E mi_X12_seatOf c0 s0 3 [(0, .ref l0), (1, .int l1), (2, .int l2), (3, .int l3), (4, .int l4)] [] m o (k3 l0 l1 l2 l3 l4 m o)) (l0 : Nat) (l1 : Int32) (l2 : Int32) (l3 : Int32) (l4 : Int32) (m : Mm) (o : Prop) : Mh wI l E mi_X12_seatOf c0 s0 3 [(0, .ref l0), (1, .int l1), (2, .int l2), (3, .int l3), (4, .int l4)] [] m o (f_X12_seatOf_3b k3 l0 l1 l2 l3 l4 m o) := by
  refine Mh_iload 4 rfl dX12_seatOf_3 ?_
  refine Mh_iconst (v := 5) dX12_seatOf_5 (by decide) ?_
  refine Mh_icmp_ge (tgt := 23) dX12_seatOf_6 (by decide) rfl (fun _ => ?_) (fun _ => ?_)
  · refine Mh_iconst (v := 0) dX12_seatOf_23 (by decide) ?_
    refine Mh_istore (lv' := [(4, .int (0 : Int32)), (0, .ref l0), (1, .int l1), (2, .int l2), (3, .int l3)]) dX12_seatOf_24 (Nat.le_of_ble_eq_true rfl) rfl ?_
    refine Mh_sub (lv' := [(0, .ref l0), (1, .int l1), (2, .int l2), (3, .int l3), (4, .int (0 : Int32))]) [1, 2, 3, 4, 0] rfl ?_
    exact t_X12_seatOf_26 l E c0 s0 _ _ _ _ _ _ _ _
  · refine Mh_aload_n 0 rfl dX12_seatOf_9 ?_
    refine Mh_gR fd_11_71 fl_RX12_167 dX12_seatOf_10 ?_
    refine Mh_iload 4 rfl dX12_seatOf_13 ?_
    refine Mh_iconst (v := 0) dX12_seatOf_15 (by decide) ?_
    refine Mh_ias dX12_seatOf_16 ?_
    exact t_X12_seatOf_17 l E c0 s0 k3 hk3 _ _ _ _ _ _ _
def f_X12_seatOf_3 : Nat → Nat → Int32 → Int32 → Int32 → Int32 → Mm → Prop → Int32 × Mm × Prop
  | 0, _, _, _, _, _, m, _ => (0, m, False)
  | n + 1, l0, l1, l2, l3, l4, m, o => f_X12_seatOf_3b (f_X12_seatOf_3 n) l0 l1 l2 l3 l4 m o
theorem t_X12_seatOf_3 (l : Launch) (E : En) (c0 s0 : Nat) : ∀ (n : Nat) (l0 : Nat) (l1 : Int32) (l2 : Int32) (l3 : Int32) (l4 : Int32) (m : Mm) (o : Prop), Mh wI l E mi_X12_seatOf c0 s0 3 [(0, .ref l0), (1, .int l1), (2, .int l2), (3, .int l3), (4, .int l4)] [] m o (f_X12_seatOf_3 n l0 l1 l2 l3 l4 m o)
  | 0, _, _, _, _, _, _, _ => Mh_out rfl
  | n + 1, l0, l1, l2, l3, l4, m, o => t_X12_seatOf_3b l E c0 s0 (f_X12_seatOf_3 n) (t_X12_seatOf_3 l E c0 s0 n) l0 l1 l2 l3 l4 m o
def f_X12_seatOf_0 (l0 : Nat) (l1 : Int32) (l2 : Int32) (l3 : Int32) (m : Mm) (o : Prop) : Int32 × Mm × Prop := f_X12_seatOf_3 1000 l0 l1 l2 l3 (0 : Int32) m o
set_option maxRecDepth 10000 in
theorem t_X12_seatOf_0 (l : Launch) (E : En) (c0 s0 : Nat) (l0 : Nat) (l1 : Int32) (l2 : Int32) (l3 : Int32) (m : Mm) (o : Prop) : Mh wI l E mi_X12_seatOf c0 s0 0 [(0, .ref l0), (1, .int l1), (2, .int l2), (3, .int l3)] [] m o (f_X12_seatOf_0 l0 l1 l2 l3 m o) := by
  refine Mh_iconst (v := 0) dX12_seatOf_0 (by decide) ?_
  refine Mh_istore (lv' := [(4, .int (0 : Int32)), (0, .ref l0), (1, .int l1), (2, .int l2), (3, .int l3)]) dX12_seatOf_1 (Nat.le_of_ble_eq_true rfl) rfl ?_
  refine Mh_sub (lv' := [(0, .ref l0), (1, .int l1), (2, .int l2), (3, .int l3), (4, .int (0 : Int32))]) [1, 2, 3, 4, 0] rfl ?_
  exact t_X12_seatOf_3 l E c0 s0 _ _ _ _ _ _ _ _
def F_X12_seatOf (a0 : Nat) (a1 : Int32) (a2 : Int32) (a3 : Int32) (m : Mm) (o : Prop) : Int32 × Mm × Prop := f_X12_seatOf_0 a0 a1 a2 a3 m o
theorem T_X12_seatOf (l : Launch) (E : En) (a0 : Nat) (a1 : Int32) (a2 : Int32) (a3 : Int32) (m : Mm) (o : Prop) : Mt wI l E yX12_seatOf mi_X12_seatOf [.ref a0, .int a1, .int a2, .int a3] m o (F_X12_seatOf a0 a1 a2 a3 m o) :=
  Mt_I (by decide) rfl rfl rfl (Nat.le_of_ble_eq_true rfl) rfl (.inl rfl) (t_X12_seatOf_0 l E _ _ _ _ _ _ _ _)
def f_X12_cut_19 (m : Mm) (o : Prop) : Int32 × Mm × Prop := ((-1 : Int32), m, o)
set_option maxRecDepth 10000 in
theorem t_X12_cut_19 (l : Launch) (E : En) (c0 s0 : Nat) (m : Mm) (o : Prop) : Mh wI l E mi_X12_cut c0 s0 19 [] [] m o (f_X12_cut_19  m o) := by
  refine Mh_iconst (v := (-1)) dX12_cut_19 (by decide) ?_
  exact Mh_ret dX12_cut_20 rfl (fun _ => rfl) rfl
def f_X12_cut_82 (k32 : Nat → Int32 → Int32 → Int32 → Int32 → Int32 → Int32 → Mm → Prop → Int32 × Mm × Prop) (k42 : Nat → Int32 → Int32 → Int32 → Int32 → Int32 → Int32 → Int32 → Mm → Prop → Int32 × Mm × Prop) (k55 : Nat → Int32 → Int32 → Int32 → Int32 → Int32 → Int32 → Int32 → Int32 → Int32 → Mm → Prop → Int32 × Mm × Prop) (l0 : Nat) (l1 : Int32) (l2 : Int32) (l3 : Int32) (l4 : Int32) (l5 : Int32) (l6 : Int32) (l7 : Int32) (l9 : Int32) (y1 : Int32) (y0 : Int32) (m : Mm) (o : Prop) : Int32 × Mm × Prop := k55 l0 l1 l2 l3 l4 l5 l6 l7 (y0 + y1) (l9 + 1) m o
set_option maxRecDepth 10000 in
theorem t_X12_cut_82 (l : Launch) (E : En) (c0 s0 : Nat) (k32 : Nat → Int32 → Int32 → Int32 → Int32 → Int32 → Int32 → Mm → Prop → Int32 × Mm × Prop) (hk32 : ∀ (l0 : Nat) (l1 : Int32) (l2 : Int32) (l3 : Int32) (l4 : Int32) (l5 : Int32) (l6 : Int32) (m : Mm) (o : Prop), Mh wI l E mi_X12_cut c0 s0 32 [(0, .ref l0), (1, .int l1), (2, .int l2), (3, .int l3), (4, .int l4), (5, .int l5), (6, .int l6)] [] m o (k32 l0 l1 l2 l3 l4 l5 l6 m o)) (k42 : Nat → Int32 → Int32 → Int32 → Int32 → Int32 → Int32 → Int32 → Mm → Prop → Int32 × Mm × Prop) (hk42 : ∀ (l0 : Nat) (l1 : Int32) (l2 : Int32) (l3 : Int32) (l4 : Int32) (l5 : Int32) (l6 : Int32) (l7 : Int32) (m : Mm) (o : Prop), Mh wI l E mi_X12_cut c0 s0 42 [(0, .ref l0), (1, .int l1), (2, .int l2), (3, .int l3), (4, .int l4), (5, .int l5), (6, .int l6), (7, .int l7)] [] m o (k42 l0 l1 l2 l3 l4 l5 l6 l7 m o)) (k55 : Nat → Int32 → Int32 → Int32 → Int32 → Int32 → Int32 → Int32 → Int32 → Int32 → Mm → Prop → Int32 × Mm × Prop) (hk55 : ∀ (l0 : Nat) (l1 : Int32) (l2 : Int32) (l3 : Int32) (l4 : Int32) (l5 : Int32) (l6 : Int32) (l7 : Int32) (l8 : Int32) (l9 : Int32) (m : Mm) (o : Prop), Mh wI l E mi_X12_cut c0 s0 55 [(0, .ref l0), (1, .int l1), (2, .int l2), (3, .int l3), (4, .int l4), (5, .int l5), (6, .int l6), (7, .int l7), (8, .int l8), (9, .int l9)] [] m o (k55 l0 l1 l2 l3 l4 l5 l6 l7 l8 l9 m o)) (l0 : Nat) (l1 : Int32) (l2 : Int32) (l3 : Int32) (l4 : Int32) (l5 : Int32) (l6 : Int32) (l7 : Int32) (l9 : Int32) (y1 : Int32) (y0 : Int32) (m : Mm) (o : Prop) : Mh wI l E mi_X12_cut c0 s0 82 [(0, .ref l0), (1, .int l1), (2, .int l2), (3, .int l3), (4, .int l4), (5, .int l5), (6, .int l6), (7, .int l7), (9, .int l9)] [.int y1, .int y0] m o (f_X12_cut_82 k32 k42 k55 l0 l1 l2 l3 l4 l5 l6 l7 l9 y1 y0 m o) := by
  refine Mh_iadd dX12_cut_82 ?_
  refine Mh_istore (lv' := [(8, .int (y0 + y1)), (0, .ref l0), (1, .int l1), (2, .int l2), (3, .int l3), (4, .int l4), (5, .int l5), (6, .int l6), (7, .int l7), (9, .int l9)]) dX12_cut_83 (Nat.le_of_ble_eq_true rfl) rfl ?_
  refine Mh_iinc (v := l9 + 1) (lv' := [(9, .int (l9 + 1)), (8, .int (y0 + y1)), (0, .ref l0), (1, .int l1), (2, .int l2), (3, .int l3), (4, .int l4), (5, .int l5), (6, .int l6), (7, .int l7)]) 9 dX12_cut_85 rfl rfl (Nat.le_of_ble_eq_true rfl) rfl ?_
  refine Mh_goto (tgt := 55) dX12_cut_88 (by decide) ?_
  refine Mh_sub (lv' := [(0, .ref l0), (1, .int l1), (2, .int l2), (3, .int l3), (4, .int l4), (5, .int l5), (6, .int l6), (7, .int l7), (8, .int (y0 + y1)), (9, .int (l9 + 1))]) [2, 3, 4, 5, 6, 7, 8, 9, 1, 0] rfl ?_
  exact hk55 _ _ _ _ _ _ _ _ _ _ _ _
def f_X12_cut_73 (k32 : Nat → Int32 → Int32 → Int32 → Int32 → Int32 → Int32 → Mm → Prop → Int32 × Mm × Prop) (k42 : Nat → Int32 → Int32 → Int32 → Int32 → Int32 → Int32 → Int32 → Mm → Prop → Int32 × Mm × Prop) (k55 : Nat → Int32 → Int32 → Int32 → Int32 → Int32 → Int32 → Int32 → Int32 → Int32 → Mm → Prop → Int32 × Mm × Prop) (l0 : Nat) (l1 : Int32) (l2 : Int32) (l3 : Int32) (l4 : Int32) (l5 : Int32) (l6 : Int32) (l7 : Int32) (l9 : Int32) (y1 : Int32) (y0 : Int32) (m : Mm) (o : Prop) : Int32 × Mm × Prop := if y1 = l1 then (f_X12_cut_82 k32 k42 k55 l0 l1 l2 l3 l4 l5 l6 l7 l9 (1 : Int32) y0 m o) else (f_X12_cut_82 k32 k42 k55 l0 l1 l2 l3 l4 l5 l6 l7 l9 (0 : Int32) y0 m o)
set_option maxRecDepth 10000 in
theorem t_X12_cut_73 (l : Launch) (E : En) (c0 s0 : Nat) (k32 : Nat → Int32 → Int32 → Int32 → Int32 → Int32 → Int32 → Mm → Prop → Int32 × Mm × Prop) (hk32 : ∀ (l0 : Nat) (l1 : Int32) (l2 : Int32) (l3 : Int32) (l4 : Int32) (l5 : Int32) (l6 : Int32) (m : Mm) (o : Prop), Mh wI l E mi_X12_cut c0 s0 32 [(0, .ref l0), (1, .int l1), (2, .int l2), (3, .int l3), (4, .int l4), (5, .int l5), (6, .int l6)] [] m o (k32 l0 l1 l2 l3 l4 l5 l6 m o)) (k42 : Nat → Int32 → Int32 → Int32 → Int32 → Int32 → Int32 → Int32 → Mm → Prop → Int32 × Mm × Prop) (hk42 : ∀ (l0 : Nat) (l1 : Int32) (l2 : Int32) (l3 : Int32) (l4 : Int32) (l5 : Int32) (l6 : Int32) (l7 : Int32) (m : Mm) (o : Prop), Mh wI l E mi_X12_cut c0 s0 42 [(0, .ref l0), (1, .int l1), (2, .int l2), (3, .int l3), (4, .int l4), (5, .int l5), (6, .int l6), (7, .int l7)] [] m o (k42 l0 l1 l2 l3 l4 l5 l6 l7 m o)) (k55 : Nat → Int32 → Int32 → Int32 → Int32 → Int32 → Int32 → Int32 → Int32 → Int32 → Mm → Prop → Int32 × Mm × Prop) (hk55 : ∀ (l0 : Nat) (l1 : Int32) (l2 : Int32) (l3 : Int32) (l4 : Int32) (l5 : Int32) (l6 : Int32) (l7 : Int32) (l8 : Int32) (l9 : Int32) (m : Mm) (o : Prop), Mh wI l E mi_X12_cut c0 s0 55 [(0, .ref l0), (1, .int l1), (2, .int l2), (3, .int l3), (4, .int l4), (5, .int l5), (6, .int l6), (7, .int l7), (8, .int l8), (9, .int l9)] [] m o (k55 l0 l1 l2 l3 l4 l5 l6 l7 l8 l9 m o)) (l0 : Nat) (l1 : Int32) (l2 : Int32) (l3 : Int32) (l4 : Int32) (l5 : Int32) (l6 : Int32) (l7 : Int32) (l9 : Int32) (y1 : Int32) (y0 : Int32) (m : Mm) (o : Prop) : Mh wI l E mi_X12_cut c0 s0 73 [(0, .ref l0), (1, .int l1), (2, .int l2), (3, .int l3), (4, .int l4), (5, .int l5), (6, .int l6), (7, .int l7), (9, .int l9)] [.int y1, .int y0] m o (f_X12_cut_73 k32 k42 k55 l0 l1 l2 l3 l4 l5 l6 l7 l9 y1 y0 m o) := by
  refine Mh_iload_n 1 rfl dX12_cut_73 ?_
  refine Mh_icmp_ne (tgt := 81) dX12_cut_74 (by decide) rfl (fun _ => ?_) (fun _ => ?_)
  · refine Mh_iconst (v := 0) dX12_cut_81 (by decide) ?_
    exact t_X12_cut_82 l E c0 s0 k32 hk32 k42 hk42 k55 hk55 _ _ _ _ _ _ _ _ _ _ _ _ _
  · refine Mh_iconst (v := 1) dX12_cut_77 (by decide) ?_
    refine Mh_goto (tgt := 82) dX12_cut_78 (by decide) ?_
    exact t_X12_cut_82 l E c0 s0 k32 hk32 k42 hk42 k55 hk55 _ _ _ _ _ _ _ _ _ _ _ _ _
def f_X12_cut_111 (k32 : Nat → Int32 → Int32 → Int32 → Int32 → Int32 → Int32 → Mm → Prop → Int32 × Mm × Prop) (k42 : Nat → Int32 → Int32 → Int32 → Int32 → Int32 → Int32 → Int32 → Mm → Prop → Int32 × Mm × Prop) (l0 : Nat) (l1 : Int32) (l2 : Int32) (l3 : Int32) (l4 : Int32) (l5 : Int32) (l6 : Int32) (l7 : Int32) (m : Mm) (o : Prop) : Int32 × Mm × Prop := k42 l0 l1 l2 l3 l4 l5 l6 (l7 + 1) m o
set_option maxRecDepth 10000 in
theorem t_X12_cut_111 (l : Launch) (E : En) (c0 s0 : Nat) (k32 : Nat → Int32 → Int32 → Int32 → Int32 → Int32 → Int32 → Mm → Prop → Int32 × Mm × Prop) (hk32 : ∀ (l0 : Nat) (l1 : Int32) (l2 : Int32) (l3 : Int32) (l4 : Int32) (l5 : Int32) (l6 : Int32) (m : Mm) (o : Prop), Mh wI l E mi_X12_cut c0 s0 32 [(0, .ref l0), (1, .int l1), (2, .int l2), (3, .int l3), (4, .int l4), (5, .int l5), (6, .int l6)] [] m o (k32 l0 l1 l2 l3 l4 l5 l6 m o)) (k42 : Nat → Int32 → Int32 → Int32 → Int32 → Int32 → Int32 → Int32 → Mm → Prop → Int32 × Mm × Prop) (hk42 : ∀ (l0 : Nat) (l1 : Int32) (l2 : Int32) (l3 : Int32) (l4 : Int32) (l5 : Int32) (l6 : Int32) (l7 : Int32) (m : Mm) (o : Prop), Mh wI l E mi_X12_cut c0 s0 42 [(0, .ref l0), (1, .int l1), (2, .int l2), (3, .int l3), (4, .int l4), (5, .int l5), (6, .int l6), (7, .int l7)] [] m o (k42 l0 l1 l2 l3 l4 l5 l6 l7 m o)) (l0 : Nat) (l1 : Int32) (l2 : Int32) (l3 : Int32) (l4 : Int32) (l5 : Int32) (l6 : Int32) (l7 : Int32) (m : Mm) (o : Prop) : Mh wI l E mi_X12_cut c0 s0 111 [(0, .ref l0), (1, .int l1), (2, .int l2), (3, .int l3), (4, .int l4), (5, .int l5), (6, .int l6), (7, .int l7)] [] m o (f_X12_cut_111 k32 k42 l0 l1 l2 l3 l4 l5 l6 l7 m o) := by
  refine Mh_iinc (v := l7 + 1) (lv' := [(7, .int (l7 + 1)), (0, .ref l0), (1, .int l1), (2, .int l2), (3, .int l3), (4, .int l4), (5, .int l5), (6, .int l6)]) 7 dX12_cut_111 rfl rfl (Nat.le_of_ble_eq_true rfl) rfl ?_
  refine Mh_goto (tgt := 42) dX12_cut_114 (by decide) ?_
  refine Mh_sub (lv' := [(0, .ref l0), (1, .int l1), (2, .int l2), (3, .int l3), (4, .int l4), (5, .int l5), (6, .int l6), (7, .int (l7 + 1))]) [1, 2, 3, 4, 5, 6, 7, 0] rfl ?_
  exact hk42 _ _ _ _ _ _ _ _ _ _
def f_X12_cut_55b (k32 : Nat → Int32 → Int32 → Int32 → Int32 → Int32 → Int32 → Mm → Prop → Int32 × Mm × Prop) (k42 : Nat → Int32 → Int32 → Int32 → Int32 → Int32 → Int32 → Int32 → Mm → Prop → Int32 × Mm × Prop) (k55 : Nat → Int32 → Int32 → Int32 → Int32 → Int32 → Int32 → Int32 → Int32 → Int32 → Mm → Prop → Int32 × Mm × Prop) (l0 : Nat) (l1 : Int32) (l2 : Int32) (l3 : Int32) (l4 : Int32) (l5 : Int32) (l6 : Int32) (l7 : Int32) (l8 : Int32) (l9 : Int32) (m : Mm) (o : Prop) : Int32 × Mm × Prop := if (4 : Int32) ≤ l9 then (if l3 < l8 then (f_X12_cut_111 k32 k42 l0 l1 l2 l8 l6 l7 l6 l7 m o) else (f_X12_cut_111 k32 k42 l0 l1 l2 l3 l4 l5 l6 l7 m o)) else (bnd (F_X12_seatOf l0 l9 l6 l7 m (o ∧ gT m l0 = 12)) (fun v1 m1 o1 => f_X12_cut_73 k32 k42 k55 l0 l1 l2 l3 l4 l5 l6 l7 l9 v1 l8 m1 o1))
set_option maxRecDepth 10000 in
theorem t_X12_cut_55b (l : Launch) (E : En) (c0 s0 : Nat) (k32 : Nat → Int32 → Int32 → Int32 → Int32 → Int32 → Int32 → Mm → Prop → Int32 × Mm × Prop) (hk32 : ∀ (l0 : Nat) (l1 : Int32) (l2 : Int32) (l3 : Int32) (l4 : Int32) (l5 : Int32) (l6 : Int32) (m : Mm) (o : Prop), Mh wI l E mi_X12_cut c0 s0 32 [(0, .ref l0), (1, .int l1), (2, .int l2), (3, .int l3), (4, .int l4), (5, .int l5), (6, .int l6)] [] m o (k32 l0 l1 l2 l3 l4 l5 l6 m o)) (k42 : Nat → Int32 → Int32 → Int32 → Int32 → Int32 → Int32 → Int32 → Mm → Prop → Int32 × Mm × Prop) (hk42 : ∀ (l0 : Nat) (l1 : Int32) (l2 : Int32) (l3 : Int32) (l4 : Int32) (l5 : Int32) (l6 : Int32) (l7 : Int32) (m : Mm) (o : Prop), Mh wI l E mi_X12_cut c0 s0 42 [(0, .ref l0), (1, .int l1), (2, .int l2), (3, .int l3), (4, .int l4), (5, .int l5), (6, .int l6), (7, .int l7)] [] m o (k42 l0 l1 l2 l3 l4 l5 l6 l7 m o)) (k55 : Nat → Int32 → Int32 → Int32 → Int32 → Int32 → Int32 → Int32 → Int32 → Int32 → Mm → Prop → Int32 × Mm × Prop) (hk55 : ∀ (l0 : Nat) (l1 : Int32) (l2 : Int32) (l3 : Int32) (l4 : Int32) (l5 : Int32) (l6 : Int32) (l7 : Int32) (l8 : Int32) (l9 : Int32) (m : Mm) (o : Prop), Mh wI l E mi_X12_cut c0 s0 55 [(0, .ref l0), (1, .int l1), (2, .int l2), (3, .int l3), (4, .int l4), (5, .int l5), (6, .int l6), (7, .int l7), (8, .int l8), (9, .int l9)] [] m o (k55 l0 l1 l2 l3 l4 l5 l6 l7 l8 l9 m o)) (l0 : Nat) (l1 : Int32) (l2 : Int32) (l3 : Int32) (l4 : Int32) (l5 : Int32) (l6 : Int32) (l7 : Int32) (l8 : Int32) (l9 : Int32) (m : Mm) (o : Prop) : Mh wI l E mi_X12_cut c0 s0 55 [(0, .ref l0), (1, .int l1), (2, .int l2), (3, .int l3), (4, .int l4), (5, .int l5), (6, .int l6), (7, .int l7), (8, .int l8), (9, .int l9)] [] m o (f_X12_cut_55b k32 k42 k55 l0 l1 l2 l3 l4 l5 l6 l7 l8 l9 m o) := by
  refine Mh_iload 9 rfl dX12_cut_55 ?_
  refine Mh_iconst (v := 4) dX12_cut_57 (by decide) ?_
  refine Mh_icmp_ge (tgt := 91) dX12_cut_58 (by decide) rfl (fun _ => ?_) (fun _ => ?_)
  · refine Mh_iload 8 rfl dX12_cut_91 ?_
    refine Mh_iload_n 3 rfl dX12_cut_93 ?_
    refine Mh_icmp_gt (tgt := 100) dX12_cut_94 (by decide) rfl (fun _ => ?_) (fun _ => ?_)
    · refine Mh_iload 8 rfl dX12_cut_100 ?_
      refine Mh_istore_n (lv' := [(3, .int l8), (0, .ref l0), (1, .int l1), (2, .int l2), (4, .int l4), (5, .int l5), (6, .int l6), (7, .int l7), (8, .int l8), (9, .int l9)]) dX12_cut_102 (Nat.le_of_ble_eq_true rfl) rfl ?_
      refine Mh_iload 6 rfl dX12_cut_103 ?_
      refine Mh_istore (lv' := [(4, .int l6), (3, .int l8), (0, .ref l0), (1, .int l1), (2, .int l2), (5, .int l5), (6, .int l6), (7, .int l7), (8, .int l8), (9, .int l9)]) dX12_cut_105 (Nat.le_of_ble_eq_true rfl) rfl ?_
      refine Mh_iload 7 rfl dX12_cut_107 ?_
      refine Mh_istore (lv' := [(5, .int l7), (4, .int l6), (3, .int l8), (0, .ref l0), (1, .int l1), (2, .int l2), (6, .int l6), (7, .int l7), (8, .int l8), (9, .int l9)]) dX12_cut_109 (Nat.le_of_ble_eq_true rfl) rfl ?_
      refine Mh_sub (lv' := [(0, .ref l0), (1, .int l1), (2, .int l2), (3, .int l8), (4, .int l6), (5, .int l7), (6, .int l6), (7, .int l7)]) [3, 4, 5, 2, 1, 0, 6, 7] rfl ?_
      exact t_X12_cut_111 l E c0 s0 k32 hk32 k42 hk42 _ _ _ _ _ _ _ _ _ _
    · refine Mh_goto (tgt := 111) dX12_cut_97 (by decide) ?_
      refine Mh_sub (lv' := [(0, .ref l0), (1, .int l1), (2, .int l2), (3, .int l3), (4, .int l4), (5, .int l5), (6, .int l6), (7, .int l7)]) [0, 1, 2, 3, 4, 5, 6, 7] rfl ?_
      exact t_X12_cut_111 l E c0 s0 k32 hk32 k42 hk42 _ _ _ _ _ _ _ _ _ _
  · refine Mh_iload 8 rfl dX12_cut_61 ?_
    refine Mh_aload_n 0 rfl dX12_cut_63 ?_
    refine Mh_iload 9 rfl dX12_cut_64 ?_
    refine Mh_iload 6 rfl dX12_cut_66 ?_
    refine Mh_iload 7 rfl dX12_cut_68 ?_
    refine Mh_cvI (N := mi_X12_seatOf) (q := l0) (ci := 11) (as := [.int l9, .int l6, .int l7]) (st := [.int l8]) (id) cg_yX12_seatOf (by decide) rfl rfl ml_RX12_462 iv_yX12_seatOf pd_yX12_seatOf rfl (by decide) (Nat.le_of_ble_eq_true rfl) rfl dX12_cut_70 (T_X12_seatOf l E _ _ _ _ _ _) rfl ?_
    refine Mh_sub (lv' := [(0, .ref l0), (1, .int l1), (2, .int l2), (3, .int l3), (4, .int l4), (5, .int l5), (6, .int l6), (7, .int l7), (9, .int l9)]) [0, 1, 2, 3, 4, 5, 6, 7, 9] rfl ?_
    exact t_X12_cut_73 l E c0 s0 k32 hk32 k42 hk42 k55 hk55 _ _ _ _ _ _ _ _ _ _ _ _ _
def f_X12_cut_55 (k32 : Nat → Int32 → Int32 → Int32 → Int32 → Int32 → Int32 → Mm → Prop → Int32 × Mm × Prop) (k42 : Nat → Int32 → Int32 → Int32 → Int32 → Int32 → Int32 → Int32 → Mm → Prop → Int32 × Mm × Prop) : Nat → Nat → Int32 → Int32 → Int32 → Int32 → Int32 → Int32 → Int32 → Int32 → Int32 → Mm → Prop → Int32 × Mm × Prop
  | 0, _, _, _, _, _, _, _, _, _, _, m, _ => (0, m, False)
  | n + 1, l0, l1, l2, l3, l4, l5, l6, l7, l8, l9, m, o => f_X12_cut_55b k32 k42 (f_X12_cut_55 k32 k42 n) l0 l1 l2 l3 l4 l5 l6 l7 l8 l9 m o
theorem t_X12_cut_55 (l : Launch) (E : En) (c0 s0 : Nat) (k32 : Nat → Int32 → Int32 → Int32 → Int32 → Int32 → Int32 → Mm → Prop → Int32 × Mm × Prop) (hk32 : ∀ (l0 : Nat) (l1 : Int32) (l2 : Int32) (l3 : Int32) (l4 : Int32) (l5 : Int32) (l6 : Int32) (m : Mm) (o : Prop), Mh wI l E mi_X12_cut c0 s0 32 [(0, .ref l0), (1, .int l1), (2, .int l2), (3, .int l3), (4, .int l4), (5, .int l5), (6, .int l6)] [] m o (k32 l0 l1 l2 l3 l4 l5 l6 m o)) (k42 : Nat → Int32 → Int32 → Int32 → Int32 → Int32 → Int32 → Int32 → Mm → Prop → Int32 × Mm × Prop) (hk42 : ∀ (l0 : Nat) (l1 : Int32) (l2 : Int32) (l3 : Int32) (l4 : Int32) (l5 : Int32) (l6 : Int32) (l7 : Int32) (m : Mm) (o : Prop), Mh wI l E mi_X12_cut c0 s0 42 [(0, .ref l0), (1, .int l1), (2, .int l2), (3, .int l3), (4, .int l4), (5, .int l5), (6, .int l6), (7, .int l7)] [] m o (k42 l0 l1 l2 l3 l4 l5 l6 l7 m o)) : ∀ (n : Nat) (l0 : Nat) (l1 : Int32) (l2 : Int32) (l3 : Int32) (l4 : Int32) (l5 : Int32) (l6 : Int32) (l7 : Int32) (l8 : Int32) (l9 : Int32) (m : Mm) (o : Prop), Mh wI l E mi_X12_cut c0 s0 55 [(0, .ref l0), (1, .int l1), (2, .int l2), (3, .int l3), (4, .int l4), (5, .int l5), (6, .int l6), (7, .int l7), (8, .int l8), (9, .int l9)] [] m o (f_X12_cut_55 k32 k42 n l0 l1 l2 l3 l4 l5 l6 l7 l8 l9 m o)
  | 0, _, _, _, _, _, _, _, _, _, _, _, _ => Mh_out rfl
  | n + 1, l0, l1, l2, l3, l4, l5, l6, l7, l8, l9, m, o => t_X12_cut_55b l E c0 s0 k32 hk32 k42 hk42 (f_X12_cut_55 k32 k42 n) (t_X12_cut_55 l E c0 s0 k32 hk32 k42 hk42 n) l0 l1 l2 l3 l4 l5 l6 l7 l8 l9 m o
def f_X12_cut_42b (k32 : Nat → Int32 → Int32 → Int32 → Int32 → Int32 → Int32 → Mm → Prop → Int32 × Mm × Prop) (k42 : Nat → Int32 → Int32 → Int32 → Int32 → Int32 → Int32 → Int32 → Mm → Prop → Int32 × Mm × Prop) (l0 : Nat) (l1 : Int32) (l2 : Int32) (l3 : Int32) (l4 : Int32) (l5 : Int32) (l6 : Int32) (l7 : Int32) (m : Mm) (o : Prop) : Int32 × Mm × Prop := if (10 : Int32) ≤ l7 then (k32 l0 l1 l2 l3 l4 l5 (l6 + 1) m o) else (f_X12_cut_55 k32 k42 1000 l0 l1 l2 l3 l4 l5 l6 l7 (0 : Int32) (0 : Int32) m o)
set_option maxRecDepth 10000 in
theorem t_X12_cut_42b (l : Launch) (E : En) (c0 s0 : Nat) (k32 : Nat → Int32 → Int32 → Int32 → Int32 → Int32 → Int32 → Mm → Prop → Int32 × Mm × Prop) (hk32 : ∀ (l0 : Nat) (l1 : Int32) (l2 : Int32) (l3 : Int32) (l4 : Int32) (l5 : Int32) (l6 : Int32) (m : Mm) (o : Prop), Mh wI l E mi_X12_cut c0 s0 32 [(0, .ref l0), (1, .int l1), (2, .int l2), (3, .int l3), (4, .int l4), (5, .int l5), (6, .int l6)] [] m o (k32 l0 l1 l2 l3 l4 l5 l6 m o)) (k42 : Nat → Int32 → Int32 → Int32 → Int32 → Int32 → Int32 → Int32 → Mm → Prop → Int32 × Mm × Prop) (hk42 : ∀ (l0 : Nat) (l1 : Int32) (l2 : Int32) (l3 : Int32) (l4 : Int32) (l5 : Int32) (l6 : Int32) (l7 : Int32) (m : Mm) (o : Prop), Mh wI l E mi_X12_cut c0 s0 42 [(0, .ref l0), (1, .int l1), (2, .int l2), (3, .int l3), (4, .int l4), (5, .int l5), (6, .int l6), (7, .int l7)] [] m o (k42 l0 l1 l2 l3 l4 l5 l6 l7 m o)) (l0 : Nat) (l1 : Int32) (l2 : Int32) (l3 : Int32) (l4 : Int32) (l5 : Int32) (l6 : Int32) (l7 : Int32) (m : Mm) (o : Prop) : Mh wI l E mi_X12_cut c0 s0 42 [(0, .ref l0), (1, .int l1), (2, .int l2), (3, .int l3), (4, .int l4), (5, .int l5), (6, .int l6), (7, .int l7)] [] m o (f_X12_cut_42b k32 k42 l0 l1 l2 l3 l4 l5 l6 l7 m o) := by
  refine Mh_iload 7 rfl dX12_cut_42 ?_
  refine Mh_bipush (v := 10) dX12_cut_44 (by decide) ?_
  refine Mh_icmp_ge (tgt := 117) dX12_cut_46 (by decide) rfl (fun _ => ?_) (fun _ => ?_)
  · refine Mh_iinc (v := l6 + 1) (lv' := [(6, .int (l6 + 1)), (0, .ref l0), (1, .int l1), (2, .int l2), (3, .int l3), (4, .int l4), (5, .int l5), (7, .int l7)]) 6 dX12_cut_117 rfl rfl (Nat.le_of_ble_eq_true rfl) rfl ?_
    refine Mh_goto (tgt := 32) dX12_cut_120 (by decide) ?_
    refine Mh_sub (lv' := [(0, .ref l0), (1, .int l1), (2, .int l2), (3, .int l3), (4, .int l4), (5, .int l5), (6, .int (l6 + 1))]) [1, 2, 3, 4, 5, 6, 0] rfl ?_
    exact hk32 _ _ _ _ _ _ _ _ _
  · refine Mh_iconst (v := 0) dX12_cut_49 (by decide) ?_
    refine Mh_istore (lv' := [(8, .int (0 : Int32)), (0, .ref l0), (1, .int l1), (2, .int l2), (3, .int l3), (4, .int l4), (5, .int l5), (6, .int l6), (7, .int l7)]) dX12_cut_50 (Nat.le_of_ble_eq_true rfl) rfl ?_
    refine Mh_iconst (v := 0) dX12_cut_52 (by decide) ?_
    refine Mh_istore (lv' := [(9, .int (0 : Int32)), (8, .int (0 : Int32)), (0, .ref l0), (1, .int l1), (2, .int l2), (3, .int l3), (4, .int l4), (5, .int l5), (6, .int l6), (7, .int l7)]) dX12_cut_53 (Nat.le_of_ble_eq_true rfl) rfl ?_
    refine Mh_sub (lv' := [(0, .ref l0), (1, .int l1), (2, .int l2), (3, .int l3), (4, .int l4), (5, .int l5), (6, .int l6), (7, .int l7), (8, .int (0 : Int32)), (9, .int (0 : Int32))]) [2, 3, 4, 5, 6, 7, 8, 9, 1, 0] rfl ?_
    exact t_X12_cut_55 l E c0 s0 k32 hk32 k42 hk42 _ _ _ _ _ _ _ _ _ _ _ _ _
def f_X12_cut_42 (k32 : Nat → Int32 → Int32 → Int32 → Int32 → Int32 → Int32 → Mm → Prop → Int32 × Mm × Prop) : Nat → Nat → Int32 → Int32 → Int32 → Int32 → Int32 → Int32 → Int32 → Mm → Prop → Int32 × Mm × Prop
  | 0, _, _, _, _, _, _, _, _, m, _ => (0, m, False)
  | n + 1, l0, l1, l2, l3, l4, l5, l6, l7, m, o => f_X12_cut_42b k32 (f_X12_cut_42 k32 n) l0 l1 l2 l3 l4 l5 l6 l7 m o
theorem t_X12_cut_42 (l : Launch) (E : En) (c0 s0 : Nat) (k32 : Nat → Int32 → Int32 → Int32 → Int32 → Int32 → Int32 → Mm → Prop → Int32 × Mm × Prop) (hk32 : ∀ (l0 : Nat) (l1 : Int32) (l2 : Int32) (l3 : Int32) (l4 : Int32) (l5 : Int32) (l6 : Int32) (m : Mm) (o : Prop), Mh wI l E mi_X12_cut c0 s0 32 [(0, .ref l0), (1, .int l1), (2, .int l2), (3, .int l3), (4, .int l4), (5, .int l5), (6, .int l6)] [] m o (k32 l0 l1 l2 l3 l4 l5 l6 m o)) : ∀ (n : Nat) (l0 : Nat) (l1 : Int32) (l2 : Int32) (l3 : Int32) (l4 : Int32) (l5 : Int32) (l6 : Int32) (l7 : Int32) (m : Mm) (o : Prop), Mh wI l E mi_X12_cut c0 s0 42 [(0, .ref l0), (1, .int l1), (2, .int l2), (3, .int l3), (4, .int l4), (5, .int l5), (6, .int l6), (7, .int l7)] [] m o (f_X12_cut_42 k32 n l0 l1 l2 l3 l4 l5 l6 l7 m o)
  | 0, _, _, _, _, _, _, _, _, _, _ => Mh_out rfl
  | n + 1, l0, l1, l2, l3, l4, l5, l6, l7, m, o => t_X12_cut_42b l E c0 s0 k32 hk32 (f_X12_cut_42 k32 n) (t_X12_cut_42 l E c0 s0 k32 hk32 n) l0 l1 l2 l3 l4 l5 l6 l7 m o
def f_X12_cut_143 (y0 : Int32) (m : Mm) (o : Prop) : Int32 × Mm × Prop := (y0, m, o)
set_option maxRecDepth 10000 in
theorem t_X12_cut_143 (l : Launch) (E : En) (c0 s0 : Nat) (y0 : Int32) (m : Mm) (o : Prop) : Mh wI l E mi_X12_cut c0 s0 143 [] [.int y0] m o (f_X12_cut_143 y0 m o) := by
  exact Mh_ret dX12_cut_143 rfl (fun _ => rfl) rfl
def f_X12_cut_32b (k32 : Nat → Int32 → Int32 → Int32 → Int32 → Int32 → Int32 → Mm → Prop → Int32 × Mm × Prop) (l0 : Nat) (l1 : Int32) (l2 : Int32) (l3 : Int32) (l4 : Int32) (l5 : Int32) (l6 : Int32) (m : Mm) (o : Prop) : Int32 × Mm × Prop := if (10 : Int32) ≤ l6 then (if l2 = 0 then (f_X12_cut_143 l3 m o) else (if l2 = (1 : Int32) then (f_X12_cut_143 l4 m o) else (f_X12_cut_143 l5 m o))) else (f_X12_cut_42 k32 1000 l0 l1 l2 l3 l4 l5 l6 (1 : Int32) m o)
set_option maxRecDepth 10000 in
theorem t_X12_cut_32b (l : Launch) (E : En) (c0 s0 : Nat) (k32 : Nat → Int32 → Int32 → Int32 → Int32 → Int32 → Int32 → Mm → Prop → Int32 × Mm × Prop) (hk32 : ∀ (l0 : Nat) (l1 : Int32) (l2 : Int32) (l3 : Int32) (l4 : Int32) (l5 : Int32) (l6 : Int32) (m : Mm) (o : Prop), Mh wI l E mi_X12_cut c0 s0 32 [(0, .ref l0), (1, .int l1), (2, .int l2), (3, .int l3), (4, .int l4), (5, .int l5), (6, .int l6)] [] m o (k32 l0 l1 l2 l3 l4 l5 l6 m o)) (l0 : Nat) (l1 : Int32) (l2 : Int32) (l3 : Int32) (l4 : Int32) (l5 : Int32) (l6 : Int32) (m : Mm) (o : Prop) : Mh wI l E mi_X12_cut c0 s0 32 [(0, .ref l0), (1, .int l1), (2, .int l2), (3, .int l3), (4, .int l4), (5, .int l5), (6, .int l6)] [] m o (f_X12_cut_32b k32 l0 l1 l2 l3 l4 l5 l6 m o) := by
  refine Mh_iload 6 rfl dX12_cut_32 ?_
  refine Mh_bipush (v := 10) dX12_cut_34 (by decide) ?_
  refine Mh_icmp_ge (tgt := 123) dX12_cut_36 (by decide) rfl (fun _ => ?_) (fun _ => ?_)
  · refine Mh_iload_n 2 rfl dX12_cut_123 ?_
    refine Mh_if_ne (tgt := 131) dX12_cut_124 (by decide) rfl (fun _ => ?_) (fun _ => ?_)
    · refine Mh_iload_n 2 rfl dX12_cut_131 ?_
      refine Mh_iconst (v := 1) dX12_cut_132 (by decide) ?_
      refine Mh_icmp_ne (tgt := 141) dX12_cut_133 (by decide) rfl (fun _ => ?_) (fun _ => ?_)
      · refine Mh_iload 5 rfl dX12_cut_141 ?_
        refine Mh_sub (lv' := []) [] rfl ?_
        exact t_X12_cut_143 l E c0 s0 _ _ _
      · refine Mh_iload 4 rfl dX12_cut_136 ?_
        refine Mh_goto (tgt := 143) dX12_cut_138 (by decide) ?_
        refine Mh_sub (lv' := []) [] rfl ?_
        exact t_X12_cut_143 l E c0 s0 _ _ _
    · refine Mh_iload_n 3 rfl dX12_cut_127 ?_
      refine Mh_goto (tgt := 143) dX12_cut_128 (by decide) ?_
      refine Mh_sub (lv' := []) [] rfl ?_
      exact t_X12_cut_143 l E c0 s0 _ _ _
  · refine Mh_iconst (v := 1) dX12_cut_39 (by decide) ?_
    refine Mh_istore (lv' := [(7, .int (1 : Int32)), (0, .ref l0), (1, .int l1), (2, .int l2), (3, .int l3), (4, .int l4), (5, .int l5), (6, .int l6)]) dX12_cut_40 (Nat.le_of_ble_eq_true rfl) rfl ?_
    refine Mh_sub (lv' := [(0, .ref l0), (1, .int l1), (2, .int l2), (3, .int l3), (4, .int l4), (5, .int l5), (6, .int l6), (7, .int (1 : Int32))]) [1, 2, 3, 4, 5, 6, 7, 0] rfl ?_
    exact t_X12_cut_42 l E c0 s0 k32 hk32 _ _ _ _ _ _ _ _ _ _ _
def f_X12_cut_32 : Nat → Nat → Int32 → Int32 → Int32 → Int32 → Int32 → Int32 → Mm → Prop → Int32 × Mm × Prop
  | 0, _, _, _, _, _, _, _, m, _ => (0, m, False)
  | n + 1, l0, l1, l2, l3, l4, l5, l6, m, o => f_X12_cut_32b (f_X12_cut_32 n) l0 l1 l2 l3 l4 l5 l6 m o
theorem t_X12_cut_32 (l : Launch) (E : En) (c0 s0 : Nat) : ∀ (n : Nat) (l0 : Nat) (l1 : Int32) (l2 : Int32) (l3 : Int32) (l4 : Int32) (l5 : Int32) (l6 : Int32) (m : Mm) (o : Prop), Mh wI l E mi_X12_cut c0 s0 32 [(0, .ref l0), (1, .int l1), (2, .int l2), (3, .int l3), (4, .int l4), (5, .int l5), (6, .int l6)] [] m o (f_X12_cut_32 n l0 l1 l2 l3 l4 l5 l6 m o)
  | 0, _, _, _, _, _, _, _, _, _ => Mh_out rfl
  | n + 1, l0, l1, l2, l3, l4, l5, l6, m, o => t_X12_cut_32b l E c0 s0 (f_X12_cut_32 n) (t_X12_cut_32 l E c0 s0 n) l0 l1 l2 l3 l4 l5 l6 m o
def f_X12_cut_16 (l0 : Nat) (l1 : Int32) (l2 : Int32) (y0 : Int32) (m : Mm) (o : Prop) : Int32 × Mm × Prop := if y0 = 0 then (f_X12_cut_19  m o) else (f_X12_cut_32 1000 l0 l1 l2 (-1 : Int32) (0 : Int32) (0 : Int32) (1 : Int32) m o)
set_option maxRecDepth 10000 in
theorem t_X12_cut_16 (l : Launch) (E : En) (c0 s0 : Nat) (l0 : Nat) (l1 : Int32) (l2 : Int32) (y0 : Int32) (m : Mm) (o : Prop) : Mh wI l E mi_X12_cut c0 s0 16 [(0, .ref l0), (1, .int l1), (2, .int l2)] [.int y0] m o (f_X12_cut_16 l0 l1 l2 y0 m o) := by
  refine Mh_if_ne (tgt := 21) dX12_cut_16 (by decide) rfl (fun _ => ?_) (fun _ => ?_)
  · refine Mh_iconst (v := (-1)) dX12_cut_21 (by decide) ?_
    refine Mh_istore_n (lv' := [(3, .int (-1 : Int32)), (0, .ref l0), (1, .int l1), (2, .int l2)]) dX12_cut_22 (Nat.le_of_ble_eq_true rfl) rfl ?_
    refine Mh_iconst (v := 0) dX12_cut_23 (by decide) ?_
    refine Mh_istore (lv' := [(4, .int (0 : Int32)), (3, .int (-1 : Int32)), (0, .ref l0), (1, .int l1), (2, .int l2)]) dX12_cut_24 (Nat.le_of_ble_eq_true rfl) rfl ?_
    refine Mh_iconst (v := 0) dX12_cut_26 (by decide) ?_
    refine Mh_istore (lv' := [(5, .int (0 : Int32)), (4, .int (0 : Int32)), (3, .int (-1 : Int32)), (0, .ref l0), (1, .int l1), (2, .int l2)]) dX12_cut_27 (Nat.le_of_ble_eq_true rfl) rfl ?_
    refine Mh_iconst (v := 1) dX12_cut_29 (by decide) ?_
    refine Mh_istore (lv' := [(6, .int (1 : Int32)), (5, .int (0 : Int32)), (4, .int (0 : Int32)), (3, .int (-1 : Int32)), (0, .ref l0), (1, .int l1), (2, .int l2)]) dX12_cut_30 (Nat.le_of_ble_eq_true rfl) rfl ?_
    refine Mh_sub (lv' := [(0, .ref l0), (1, .int l1), (2, .int l2), (3, .int (-1 : Int32)), (4, .int (0 : Int32)), (5, .int (0 : Int32)), (6, .int (1 : Int32))]) [4, 5, 6, 3, 2, 1, 0] rfl ?_
    exact t_X12_cut_32 l E c0 s0 _ _ _ _ _ _ _ _ _ _
  · refine Mh_sub (lv' := []) [] rfl ?_
    exact t_X12_cut_19 l E c0 s0  _ _
def f_X12_cut_4 (l0 : Nat) (l1 : Int32) (l2 : Int32) (y0 : Int32) (m : Mm) (o : Prop) : Int32 × Mm × Prop := if y0 = 0 then (f_X12_cut_19  m o) else (bnd (F_X12_lies (Int32.toInt64 l2) (0 : Int64) (2 : Int64) m o) (fun v1 m1 o1 => f_X12_cut_16 l0 l1 l2 v1 m1 o1))
set_option maxRecDepth 10000 in
theorem t_X12_cut_4 (l : Launch) (E : En) (c0 s0 : Nat) (l0 : Nat) (l1 : Int32) (l2 : Int32) (y0 : Int32) (m : Mm) (o : Prop) : Mh wI l E mi_X12_cut c0 s0 4 [(0, .ref l0), (1, .int l1), (2, .int l2)] [.int y0] m o (f_X12_cut_4 l0 l1 l2 y0 m o) := by
  refine Mh_if_eq (tgt := 19) dX12_cut_4 (by decide) rfl (fun _ => ?_) (fun _ => ?_)
  · refine Mh_sub (lv' := []) [] rfl ?_
    exact t_X12_cut_19 l E c0 s0  _ _
  · refine Mh_iload_n 2 rfl dX12_cut_7 ?_
    refine Mh_i2l dX12_cut_8 ?_
    refine Mh_lconst (v := 0) dX12_cut_9 (by decide) ?_
    refine Mh_ldc2 (v := 2) gl_RX12_465 dX12_cut_10 ?_
    refine Mh_csI (N := mi_X12_lies) (as := [.long (Int32.toInt64 l2), .long (0 : Int64), .long (2 : Int64)]) (st := []) cg_yX12_lies (.inl ml_RX12_188) sv_yX12_lies pd_yX12_lies rfl (by decide) (Nat.le_of_ble_eq_true rfl) rfl dX12_cut_13 (T_X12_lies l E _ _ _ _ _) rfl ?_
    exact t_X12_cut_16 l E c0 s0 _ _ _ _ _ _
def f_X12_cut_0 (l0 : Nat) (l1 : Int32) (l2 : Int32) (m : Mm) (o : Prop) : Int32 × Mm × Prop := bnd (F_X12_isColour l1 m o) (fun v1 m1 o1 => f_X12_cut_4 l0 l1 l2 v1 m1 o1)
set_option maxRecDepth 10000 in
theorem t_X12_cut_0 (l : Launch) (E : En) (c0 s0 : Nat) (l0 : Nat) (l1 : Int32) (l2 : Int32) (m : Mm) (o : Prop) : Mh wI l E mi_X12_cut c0 s0 0 [(0, .ref l0), (1, .int l1), (2, .int l2)] [] m o (f_X12_cut_0 l0 l1 l2 m o) := by
  refine Mh_iload_n 1 rfl dX12_cut_0 ?_
  refine Mh_csI (N := mi_X12_isColour) (as := [.int l1]) (st := []) cg_yX12_isColour (.inl ml_RX12_209) sv_yX12_isColour pd_yX12_isColour rfl (by decide) (Nat.le_of_ble_eq_true rfl) rfl dX12_cut_1 (T_X12_isColour l E _ _ _) rfl ?_
  exact t_X12_cut_4 l E c0 s0 _ _ _ _ _ _
def F_X12_cut (a0 : Nat) (a1 : Int32) (a2 : Int32) (m : Mm) (o : Prop) : Int32 × Mm × Prop := f_X12_cut_0 a0 a1 a2 m o
theorem T_X12_cut (l : Launch) (E : En) (a0 : Nat) (a1 : Int32) (a2 : Int32) (m : Mm) (o : Prop) : Mt wI l E yX12_cut mi_X12_cut [.ref a0, .int a1, .int a2] m o (F_X12_cut a0 a1 a2 m o) :=
  Mt_I (by decide) rfl rfl rfl (Nat.le_of_ble_eq_true rfl) rfl (.inl rfl) (t_X12_cut_0 l E _ _ _ _ _ _ _)
def f_X12_areDays_9 (y0 : Int32) (m : Mm) (o : Prop) : Int32 × Mm × Prop := (y0, m, o ∧ (y0 = 0 ∨ y0 = 1))
set_option maxRecDepth 10000 in
theorem t_X12_areDays_9 (l : Launch) (E : En) (c0 s0 : Nat) (y0 : Int32) (m : Mm) (o : Prop) : Mh wI l E mi_X12_areDays c0 s0 9 [] [.int y0] m o (f_X12_areDays_9 y0 m o) := by
  exact Mh_retZ dX12_areDays_9 (.inl rfl) rfl
def f_X12_areDays_0 (l0 : Int32) (m : Mm) (o : Prop) : Int32 × Mm × Prop := bnd (F_X12_lies (Int32.toInt64 l0) (1 : Int64) (20 : Int64) m o) (fun v1 m1 o1 => f_X12_areDays_9 v1 m1 o1)
set_option maxRecDepth 10000 in
theorem t_X12_areDays_0 (l : Launch) (E : En) (c0 s0 : Nat) (l0 : Int32) (m : Mm) (o : Prop) : Mh wI l E mi_X12_areDays c0 s0 0 [(0, .int l0)] [] m o (f_X12_areDays_0 l0 m o) := by
  refine Mh_iload_n 0 rfl dX12_areDays_0 ?_
  refine Mh_i2l dX12_areDays_1 ?_
  refine Mh_lconst (v := 1) dX12_areDays_2 (by decide) ?_
  refine Mh_ldc2 (v := 20) gl_RX12_396 dX12_areDays_3 ?_
  refine Mh_csI (N := mi_X12_lies) (as := [.long (Int32.toInt64 l0), .long (1 : Int64), .long (20 : Int64)]) (st := []) cg_yX12_lies (.inl ml_RX12_188) sv_yX12_lies pd_yX12_lies rfl (by decide) (Nat.le_of_ble_eq_true rfl) rfl dX12_areDays_6 (T_X12_lies l E _ _ _ _ _) rfl ?_
  refine Mh_sub (lv' := []) [] rfl ?_
  exact t_X12_areDays_9 l E c0 s0 _ _ _
def F_X12_areDays (a0 : Int32) (m : Mm) (o : Prop) : Int32 × Mm × Prop := f_X12_areDays_0 a0 m o
theorem T_X12_areDays (l : Launch) (E : En) (a0 : Int32) (m : Mm) (o : Prop) : Mt wI l E yX12_areDays mi_X12_areDays [.int a0] m o (F_X12_areDays a0 m o) :=
  Mt_I (by decide) rfl rfl rfl (Nat.le_of_ble_eq_true rfl) rfl (.inr (.inl rfl)) (t_X12_areDays_0 l E _ _ _ _ _)
def f_X12_days_25 (k16 : Nat → Int32 → Int32 → Mm → Prop → Int32 × Mm × Prop) (l0 : Nat) (l1 : Int32) (l2 : Int32) (m : Mm) (o : Prop) : Int32 × Mm × Prop := k16 l0 l1 (l2 + 1) m o
set_option maxRecDepth 10000 in
theorem t_X12_days_25 (l : Launch) (E : En) (c0 s0 : Nat) (k16 : Nat → Int32 → Int32 → Mm → Prop → Int32 × Mm × Prop) (hk16 : ∀ (l0 : Nat) (l1 : Int32) (l2 : Int32) (m : Mm) (o : Prop), Mh wI l E mi_X12_days c0 s0 16 [(0, .ref l0), (1, .int l1), (2, .int l2)] [] m o (k16 l0 l1 l2 m o)) (l0 : Nat) (l1 : Int32) (l2 : Int32) (m : Mm) (o : Prop) : Mh wI l E mi_X12_days c0 s0 25 [(0, .ref l0), (1, .int l1), (2, .int l2)] [] m o (f_X12_days_25 k16 l0 l1 l2 m o) := by
  refine Mh_iinc (v := l2 + 1) (lv' := [(2, .int (l2 + 1)), (0, .ref l0), (1, .int l1)]) 2 dX12_days_25 rfl rfl (Nat.le_of_ble_eq_true rfl) rfl ?_
  refine Mh_goto (tgt := 16) dX12_days_28 (by decide) ?_
  refine Mh_sub (lv' := [(0, .ref l0), (1, .int l1), (2, .int (l2 + 1))]) [1, 2, 0] rfl ?_
  exact hk16 _ _ _ _ _
def f_X12_days_16b (k16 : Nat → Int32 → Int32 → Mm → Prop → Int32 × Mm × Prop) (l0 : Nat) (l1 : Int32) (l2 : Int32) (m : Mm) (o : Prop) : Int32 × Mm × Prop := if l1 ≤ l2 then (gI m l0 51, m, (o ∧ gT m l0 = 12)) else (bnd (F_X12_dayOne l0 m (o ∧ gT m l0 = 12)) (fun _ m1 o1 => f_X12_days_25 k16 l0 l1 l2 m1 o1))
set_option maxRecDepth 10000 in
theorem t_X12_days_16b (l : Launch) (E : En) (c0 s0 : Nat) (k16 : Nat → Int32 → Int32 → Mm → Prop → Int32 × Mm × Prop) (hk16 : ∀ (l0 : Nat) (l1 : Int32) (l2 : Int32) (m : Mm) (o : Prop), Mh wI l E mi_X12_days c0 s0 16 [(0, .ref l0), (1, .int l1), (2, .int l2)] [] m o (k16 l0 l1 l2 m o)) (l0 : Nat) (l1 : Int32) (l2 : Int32) (m : Mm) (o : Prop) : Mh wI l E mi_X12_days c0 s0 16 [(0, .ref l0), (1, .int l1), (2, .int l2)] [] m o (f_X12_days_16b k16 l0 l1 l2 m o) := by
  refine Mh_iload_n 2 rfl dX12_days_16 ?_
  refine Mh_iload_n 1 rfl dX12_days_17 ?_
  refine Mh_icmp_ge (tgt := 31) dX12_days_18 (by decide) rfl (fun _ => ?_) (fun _ => ?_)
  · refine Mh_aload_n 0 rfl dX12_days_31 ?_
    refine Mh_gI fd_11_51 fl_RX12_390 dX12_days_32 ?_
    exact Mh_ret dX12_days_35 rfl (fun _ => rfl) rfl
  · refine Mh_aload_n 0 rfl dX12_days_21 ?_
    refine Mh_cvU (N := mi_X12_dayOne) (q := l0) (ci := 11) (as := []) (st := []) (id) cg_yX12_dayOne (by decide) rfl rfl ml_RX12_401 iv_yX12_dayOne pd_yX12_dayOne rfl (by decide) (Nat.le_of_ble_eq_true rfl) rfl dX12_days_22 (T_X12_dayOne l E _ _ _) rfl ?_
    exact t_X12_days_25 l E c0 s0 k16 hk16 _ _ _ _ _
def f_X12_days_16 : Nat → Nat → Int32 → Int32 → Mm → Prop → Int32 × Mm × Prop
  | 0, _, _, _, m, _ => (0, m, False)
  | n + 1, l0, l1, l2, m, o => f_X12_days_16b (f_X12_days_16 n) l0 l1 l2 m o
theorem t_X12_days_16 (l : Launch) (E : En) (c0 s0 : Nat) : ∀ (n : Nat) (l0 : Nat) (l1 : Int32) (l2 : Int32) (m : Mm) (o : Prop), Mh wI l E mi_X12_days c0 s0 16 [(0, .ref l0), (1, .int l1), (2, .int l2)] [] m o (f_X12_days_16 n l0 l1 l2 m o)
  | 0, _, _, _, _, _ => Mh_out rfl
  | n + 1, l0, l1, l2, m, o => t_X12_days_16b l E c0 s0 (f_X12_days_16 n) (t_X12_days_16 l E c0 s0 n) l0 l1 l2 m o
def f_X12_days_14 (l0 : Nat) (l1 : Int32) (m : Mm) (o : Prop) : Int32 × Mm × Prop := f_X12_days_16 1000 l0 l1 (0 : Int32) m o
set_option maxRecDepth 10000 in
theorem t_X12_days_14 (l : Launch) (E : En) (c0 s0 : Nat) (l0 : Nat) (l1 : Int32) (m : Mm) (o : Prop) : Mh wI l E mi_X12_days c0 s0 14 [(0, .ref l0), (1, .int l1)] [] m o (f_X12_days_14 l0 l1 m o) := by
  refine Mh_iconst (v := 0) dX12_days_14 (by decide) ?_
  refine Mh_istore_n (lv' := [(2, .int (0 : Int32)), (0, .ref l0), (1, .int l1)]) dX12_days_15 (Nat.le_of_ble_eq_true rfl) rfl ?_
  refine Mh_sub (lv' := [(0, .ref l0), (1, .int l1), (2, .int (0 : Int32))]) [1, 2, 0] rfl ?_
  exact t_X12_days_16 l E c0 s0 _ _ _ _ _ _
def f_X12_days_4 (l0 : Nat) (l1 : Int32) (y0 : Int32) (m : Mm) (o : Prop) : Int32 × Mm × Prop := if y0 = 0 then ((-1 : Int32), m, o) else (f_X12_days_14 l0 l1 (sI m l0 51 (0 : Int32)) (o ∧ gT m l0 = 12))
set_option maxRecDepth 10000 in
theorem t_X12_days_4 (l : Launch) (E : En) (c0 s0 : Nat) (l0 : Nat) (l1 : Int32) (y0 : Int32) (m : Mm) (o : Prop) : Mh wI l E mi_X12_days c0 s0 4 [(0, .ref l0), (1, .int l1)] [.int y0] m o (f_X12_days_4 l0 l1 y0 m o) := by
  refine Mh_if_ne (tgt := 9) dX12_days_4 (by decide) rfl (fun _ => ?_) (fun _ => ?_)
  · refine Mh_aload_n 0 rfl dX12_days_9 ?_
    refine Mh_iconst (v := 0) dX12_days_10 (by decide) ?_
    refine Mh_pI fd_11_51 ft_11 rfl fl_RX12_390 rfl dX12_days_11 ?_
    exact t_X12_days_14 l E c0 s0 _ _ _ _
  · refine Mh_iconst (v := (-1)) dX12_days_7 (by decide) ?_
    exact Mh_ret dX12_days_8 rfl (fun _ => rfl) rfl
def f_X12_days_0 (l0 : Nat) (l1 : Int32) (m : Mm) (o : Prop) : Int32 × Mm × Prop := bnd (F_X12_areDays l1 m o) (fun v1 m1 o1 => f_X12_days_4 l0 l1 v1 m1 o1)
set_option maxRecDepth 10000 in
theorem t_X12_days_0 (l : Launch) (E : En) (c0 s0 : Nat) (l0 : Nat) (l1 : Int32) (m : Mm) (o : Prop) : Mh wI l E mi_X12_days c0 s0 0 [(0, .ref l0), (1, .int l1)] [] m o (f_X12_days_0 l0 l1 m o) := by
  refine Mh_iload_n 1 rfl dX12_days_0 ?_
  refine Mh_csI (N := mi_X12_areDays) (as := [.int l1]) (st := []) cg_yX12_areDays (.inl ml_RX12_398) sv_yX12_areDays pd_yX12_areDays rfl (by decide) (Nat.le_of_ble_eq_true rfl) rfl dX12_days_1 (T_X12_areDays l E _ _ _) rfl ?_
  exact t_X12_days_4 l E c0 s0 _ _ _ _ _
def F_X12_days (a0 : Nat) (a1 : Int32) (m : Mm) (o : Prop) : Int32 × Mm × Prop := f_X12_days_0 a0 a1 m o
theorem T_X12_days (l : Launch) (E : En) (a0 : Nat) (a1 : Int32) (m : Mm) (o : Prop) : Mt wI l E yX12_days mi_X12_days [.ref a0, .int a1] m o (F_X12_days a0 a1 m o) :=
  Mt_I (by decide) rfl rfl rfl (Nat.le_of_ble_eq_true rfl) rfl (.inl rfl) (t_X12_days_0 l E _ _ _ _ _ _)
