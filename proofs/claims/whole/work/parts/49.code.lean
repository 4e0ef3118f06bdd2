def f_X12_stack_59 (m : Mm) (o : Prop) : Int32 × Mm × Prop := ((-1 : Int32), m, o)
set_option maxRecDepth 10000 in
theorem t_X12_stack_59 (l : Launch) (E : En) (c0 s0 : Nat) (m : Mm) (o : Prop) : Mh wI l E mi_X12_stack c0 s0 59 [] [] m o (f_X12_stack_59  m o) := by
  refine Mh_iconst (v := (-1)) dX12_stack_59 (by decide) ?_
  exact Mh_ret dX12_stack_60 rfl (fun _ => rfl) rfl
def f_X12_stack_102 (k64 : Nat → Int32 → Int32 → Int32 → Int32 → Int32 → Int32 → Int32 → Mm → Prop → Int32 × Mm × Prop) (l0 : Nat) (l1 : Int32) (l2 : Int32) (l3 : Int32) (l4 : Int32) (l5 : Int32) (l6 : Int32) (l7 : Int32) (m : Mm) (o : Prop) : Int32 × Mm × Prop := k64 l0 l1 l2 l3 l4 l5 l6 (l7 + 1) m o
set_option maxRecDepth 10000 in
theorem t_X12_stack_102 (l : Launch) (E : En) (c0 s0 : Nat) (k64 : Nat → Int32 → Int32 → Int32 → Int32 → Int32 → Int32 → Int32 → Mm → Prop → Int32 × Mm × Prop) (hk64 : ∀ (l0 : Nat) (l1 : Int32) (l2 : Int32) (l3 : Int32) (l4 : Int32) (l5 : Int32) (l6 : Int32) (l7 : Int32) (m : Mm) (o : Prop), Mh wI l E mi_X12_stack c0 s0 64 [(0, .ref l0), (1, .int l1), (2, .int l2), (3, .int l3), (4, .int l4), (5, .int l5), (6, .int l6), (7, .int l7)] [] m o (k64 l0 l1 l2 l3 l4 l5 l6 l7 m o)) (l0 : Nat) (l1 : Int32) (l2 : Int32) (l3 : Int32) (l4 : Int32) (l5 : Int32) (l6 : Int32) (l7 : Int32) (m : Mm) (o : Prop) : Mh wI l E mi_X12_stack c0 s0 102 [(0, .ref l0), (1, .int l1), (2, .int l2), (3, .int l3), (4, .int l4), (5, .int l5), (6, .int l6), (7, .int l7)] [] m o (f_X12_stack_102 k64 l0 l1 l2 l3 l4 l5 l6 l7 m o) := by
  refine Mh_iinc (v := l7 + 1) (lv' := [(7, .int (l7 + 1)), (0, .ref l0), (1, .int l1), (2, .int l2), (3, .int l3), (4, .int l4), (5, .int l5), (6, .int l6)]) 7 dX12_stack_102 rfl rfl (Nat.le_of_ble_eq_true rfl) rfl ?_
  refine Mh_goto (tgt := 64) dX12_stack_105 (by decide) ?_
  refine Mh_sub (lv' := [(0, .ref l0), (1, .int l1), (2, .int l2), (3, .int l3), (4, .int l4), (5, .int l5), (6, .int l6), (7, .int (l7 + 1))]) [1, 2, 3, 4, 5, 6, 7, 0] rfl ?_
  exact hk64 _ _ _ _ _ _ _ _ _ _
def f_X12_stack_212 (k189 : Nat → Int32 → Mm → Prop → Int32 × Mm × Prop) (l0 : Nat) (l7 : Int32) (m : Mm) (o : Prop) : Int32 × Mm × Prop := k189 l0 (l7 + 1) m o
set_option maxRecDepth 10000 in
theorem t_X12_stack_212 (l : Launch) (E : En) (c0 s0 : Nat) (k189 : Nat → Int32 → Mm → Prop → Int32 × Mm × Prop) (hk189 : ∀ (l0 : Nat) (l7 : Int32) (m : Mm) (o : Prop), Mh wI l E mi_X12_stack c0 s0 189 [(0, .ref l0), (7, .int l7)] [] m o (k189 l0 l7 m o)) (l0 : Nat) (l7 : Int32) (m : Mm) (o : Prop) : Mh wI l E mi_X12_stack c0 s0 212 [(0, .ref l0), (7, .int l7)] [] m o (f_X12_stack_212 k189 l0 l7 m o) := by
  refine Mh_iinc (v := l7 + 1) (lv' := [(7, .int (l7 + 1)), (0, .ref l0)]) 1 dX12_stack_212 rfl rfl (Nat.le_of_ble_eq_true rfl) rfl ?_
  refine Mh_goto (tgt := 189) dX12_stack_215 (by decide) ?_
  refine Mh_sub (lv' := [(0, .ref l0), (7, .int (l7 + 1))]) [1, 0] rfl ?_
  exact hk189 _ _ _ _
def f_X12_stack_228 (l0 : Nat) (m : Mm) (o : Prop) : Int32 × Mm × Prop := ((gI m l0 2) - (1 : Int32), m, (o ∧ gT m l0 = 12))
set_option maxRecDepth 10000 in
theorem t_X12_stack_228 (l : Launch) (E : En) (c0 s0 : Nat) (l0 : Nat) (m : Mm) (o : Prop) : Mh wI l E mi_X12_stack c0 s0 228 [(0, .ref l0)] [] m o (f_X12_stack_228 l0 m o) := by
  refine Mh_aload_n 0 rfl dX12_stack_228 ?_
  refine Mh_gI fd_11_2 fl_RX12_192 dX12_stack_229 ?_
  refine Mh_iconst (v := 1) dX12_stack_232 (by decide) ?_
  refine Mh_isub dX12_stack_233 ?_
  exact Mh_ret dX12_stack_234 rfl (fun _ => rfl) rfl
def f_X12_stack_189b (k189 : Nat → Int32 → Mm → Prop → Int32 × Mm × Prop) (l0 : Nat) (l7 : Int32) (m : Mm) (o : Prop) : Int32 × Mm × Prop := if (16 : Int32) ≤ l7 then (f_X12_stack_228 l0 (sI m l0 2 ((gI m l0 2) + (1 : Int32))) (o ∧ gT m l0 = 12)) else (f_X12_stack_212 k189 l0 l7 (sI m (gR m l0 21) (ix (((16 : Int32) * (gI m l0 2)) + l7)) (0 : Int32)) (((o ∧ (gT m l0 = 12 ∧ gR m l0 21 ≠ 0)) ∧ gT m l0 = 12) ∧ (gT m (gR m l0 21) = 20 ∧ vp_in (((16 : Int32) * (gI m l0 2)) + l7) (gN m (gR m l0 21)))))
set_option maxRecDepth 10000 in
theorem t_X12_stack_189b (l : Launch) (E : En) (c0 s0 : Nat) (k189 : Nat → Int32 → Mm → Prop → Int32 × Mm × Prop) (hk189 : ∀ (l0 : Nat) (l7 : Int32) (m : Mm) (o : Prop), Mh wI l E mi_X12_stack c0 s0 189 [(0, .ref l0), (7, .int l7)] [] m o (k189 l0 l7 m o)) (l0 : Nat) (l7 : Int32) (m : Mm) (o : Prop) : Mh wI l E mi_X12_stack c0 s0 189 [(0, .ref l0), (7, .int l7)] [] m o (f_X12_stack_189b k189 l0 l7 m o) := by
  refine Mh_iload 1 rfl dX12_stack_189 ?_
  refine Mh_bipush (v := 16) dX12_stack_191 (by decide) ?_
  refine Mh_icmp_ge (tgt := 218) dX12_stack_193 (by decide) rfl (fun _ => ?_) (fun _ => ?_)
  · refine Mh_aload_n 0 rfl dX12_stack_218 ?_
    refine Mh_dup dX12_stack_219 rfl ?_
    refine Mh_gI fd_11_2 fl_RX12_192 dX12_stack_220 ?_
    refine Mh_iconst (v := 1) dX12_stack_223 (by decide) ?_
    refine Mh_iadd dX12_stack_224 ?_
    refine Mh_pI fd_11_2 ft_11 rfl fl_RX12_192 rfl dX12_stack_225 ?_
    refine Mh_ok (fun h => h.2) ?_
    refine Mh_sub (lv' := [(0, .ref l0)]) [0] rfl ?_
    exact t_X12_stack_228 l E c0 s0 _ _ _
  · refine Mh_aload_n 0 rfl dX12_stack_196 ?_
    refine Mh_gR fd_11_21 fl_RX12_61 dX12_stack_197 ?_
    refine Mh_bipush (v := 16) dX12_stack_200 (by decide) ?_
    refine Mh_aload_n 0 rfl dX12_stack_202 ?_
    refine Mh_gI fd_11_2 fl_RX12_192 dX12_stack_203 ?_
    refine Mh_imul dX12_stack_206 ?_
    refine Mh_iload 1 rfl dX12_stack_207 ?_
    refine Mh_iadd dX12_stack_209 ?_
    refine Mh_iconst (v := 0) dX12_stack_210 (by decide) ?_
    refine Mh_ias dX12_stack_211 ?_
    exact t_X12_stack_212 l E c0 s0 k189 hk189 _ _ _ _
def f_X12_stack_189 : Nat → Nat → Int32 → Mm → Prop → Int32 × Mm × Prop
  | 0, _, _, m, _ => (0, m, False)
  | n + 1, l0, l7, m, o => f_X12_stack_189b (f_X12_stack_189 n) l0 l7 m o
theorem t_X12_stack_189 (l : Launch) (E : En) (c0 s0 : Nat) : ∀ (n : Nat) (l0 : Nat) (l7 : Int32) (m : Mm) (o : Prop), Mh wI l E mi_X12_stack c0 s0 189 [(0, .ref l0), (7, .int l7)] [] m o (f_X12_stack_189 n l0 l7 m o)
  | 0, _, _, _, _ => Mh_out rfl
  | n + 1, l0, l7, m, o => t_X12_stack_189b l E c0 s0 (f_X12_stack_189 n) (t_X12_stack_189 l E c0 s0 n) l0 l7 m o
def f_X12_stack_186 (l0 : Nat) (m : Mm) (o : Prop) : Int32 × Mm × Prop := f_X12_stack_189 1000 l0 (0 : Int32) m o
set_option maxRecDepth 10000 in
theorem t_X12_stack_186 (l : Launch) (E : En) (c0 s0 : Nat) (l0 : Nat) (m : Mm) (o : Prop) : Mh wI l E mi_X12_stack c0 s0 186 [(0, .ref l0)] [] m o (f_X12_stack_186 l0 m o) := by
  refine Mh_iconst (v := 0) dX12_stack_186 (by decide) ?_
  refine Mh_istore (lv' := [(7, .int (0 : Int32)), (0, .ref l0)]) dX12_stack_187 (Nat.le_of_ble_eq_true rfl) rfl ?_
  refine Mh_sub (lv' := [(0, .ref l0), (7, .int (0 : Int32))]) [1, 0] rfl ?_
  exact t_X12_stack_189 l E c0 s0 _ _ _ _ _
def f_X12_stack_176 (l0 : Nat) (m : Mm) (o : Prop) : Int32 × Mm × Prop := f_X12_stack_186 l0 (sI m (gR m l0 14) (ix (gI m l0 2)) ((1 : Int32) &&& 1)) (((o ∧ (gT m l0 = 12 ∧ gR m l0 14 ≠ 0)) ∧ gT m l0 = 12) ∧ (gT m (gR m l0 14) = 22 ∧ vp_in (gI m l0 2) (gN m (gR m l0 14))))
set_option maxRecDepth 10000 in
theorem t_X12_stack_176 (l : Launch) (E : En) (c0 s0 : Nat) (l0 : Nat) (m : Mm) (o : Prop) : Mh wI l E mi_X12_stack c0 s0 176 [(0, .ref l0)] [] m o (f_X12_stack_176 l0 m o) := by
  refine Mh_aload_n 0 rfl dX12_stack_176 ?_
  refine Mh_gR fd_11_14 fl_RX12_39 dX12_stack_177 ?_
  refine Mh_aload_n 0 rfl dX12_stack_180 ?_
  refine Mh_gI fd_11_2 fl_RX12_192 dX12_stack_181 ?_
  refine Mh_iconst (v := 1) dX12_stack_184 (by decide) ?_
  refine Mh_zas dX12_stack_185 ?_
  exact t_X12_stack_186 l E c0 s0 _ _ _
def f_X12_stack_166 (l0 : Nat) (m : Mm) (o : Prop) : Int32 × Mm × Prop := f_X12_stack_176 l0 (sI m (gR m l0 13) (ix (gI m l0 2)) (0 : Int32)) (((o ∧ (gT m l0 = 12 ∧ gR m l0 13 ≠ 0)) ∧ gT m l0 = 12) ∧ (gT m (gR m l0 13) = 20 ∧ vp_in (gI m l0 2) (gN m (gR m l0 13))))
set_option maxRecDepth 10000 in
theorem t_X12_stack_166 (l : Launch) (E : En) (c0 s0 : Nat) (l0 : Nat) (m : Mm) (o : Prop) : Mh wI l E mi_X12_stack c0 s0 166 [(0, .ref l0)] [] m o (f_X12_stack_166 l0 m o) := by
  refine Mh_aload_n 0 rfl dX12_stack_166 ?_
  refine Mh_gR fd_11_13 fl_RX12_36 dX12_stack_167 ?_
  refine Mh_aload_n 0 rfl dX12_stack_170 ?_
  refine Mh_gI fd_11_2 fl_RX12_192 dX12_stack_171 ?_
  refine Mh_iconst (v := 0) dX12_stack_174 (by decide) ?_
  refine Mh_ias dX12_stack_175 ?_
  exact t_X12_stack_176 l E c0 s0 _ _ _
def f_X12_stack_155 (l0 : Nat) (l6 : Int32) (m : Mm) (o : Prop) : Int32 × Mm × Prop := f_X12_stack_166 l0 (sI m (gR m l0 12) (ix (gI m l0 2)) l6) (((o ∧ (gT m l0 = 12 ∧ gR m l0 12 ≠ 0)) ∧ gT m l0 = 12) ∧ (gT m (gR m l0 12) = 20 ∧ vp_in (gI m l0 2) (gN m (gR m l0 12))))
set_option maxRecDepth 10000 in
theorem t_X12_stack_155 (l : Launch) (E : En) (c0 s0 : Nat) (l0 : Nat) (l6 : Int32) (m : Mm) (o : Prop) : Mh wI l E mi_X12_stack c0 s0 155 [(0, .ref l0), (6, .int l6)] [] m o (f_X12_stack_155 l0 l6 m o) := by
  refine Mh_aload_n 0 rfl dX12_stack_155 ?_
  refine Mh_gR fd_11_12 fl_RX12_33 dX12_stack_156 ?_
  refine Mh_aload_n 0 rfl dX12_stack_159 ?_
  refine Mh_gI fd_11_2 fl_RX12_192 dX12_stack_160 ?_
  refine Mh_iload 1 rfl dX12_stack_163 ?_
  refine Mh_ias dX12_stack_165 ?_
  refine Mh_sub (lv' := [(0, .ref l0)]) [0] rfl ?_
  exact t_X12_stack_166 l E c0 s0 _ _ _
def f_X12_stack_144 (l0 : Nat) (l5 : Int32) (l6 : Int32) (m : Mm) (o : Prop) : Int32 × Mm × Prop := f_X12_stack_155 l0 l6 (sI m (gR m l0 11) (ix (gI m l0 2)) l5) (((o ∧ (gT m l0 = 12 ∧ gR m l0 11 ≠ 0)) ∧ gT m l0 = 12) ∧ (gT m (gR m l0 11) = 20 ∧ vp_in (gI m l0 2) (gN m (gR m l0 11))))
set_option maxRecDepth 10000 in
theorem t_X12_stack_144 (l : Launch) (E : En) (c0 s0 : Nat) (l0 : Nat) (l5 : Int32) (l6 : Int32) (m : Mm) (o : Prop) : Mh wI l E mi_X12_stack c0 s0 144 [(0, .ref l0), (5, .int l5), (6, .int l6)] [] m o (f_X12_stack_144 l0 l5 l6 m o) := by
  refine Mh_aload_n 0 rfl dX12_stack_144 ?_
  refine Mh_gR fd_11_11 fl_RX12_30 dX12_stack_145 ?_
  refine Mh_aload_n 0 rfl dX12_stack_148 ?_
  refine Mh_gI fd_11_2 fl_RX12_192 dX12_stack_149 ?_
  refine Mh_iload 1 rfl dX12_stack_152 ?_
  refine Mh_ias dX12_stack_154 ?_
  refine Mh_sub (lv' := [(0, .ref l0), (6, .int l6)]) [0, 2] rfl ?_
  exact t_X12_stack_155 l E c0 s0 _ _ _ _
def f_X12_stack_133 (l0 : Nat) (l4 : Int32) (l5 : Int32) (l6 : Int32) (m : Mm) (o : Prop) : Int32 × Mm × Prop := f_X12_stack_144 l0 l5 l6 (sI m (gR m l0 10) (ix (gI m l0 2)) l4) (((o ∧ (gT m l0 = 12 ∧ gR m l0 10 ≠ 0)) ∧ gT m l0 = 12) ∧ (gT m (gR m l0 10) = 20 ∧ vp_in (gI m l0 2) (gN m (gR m l0 10))))
set_option maxRecDepth 10000 in
theorem t_X12_stack_133 (l : Launch) (E : En) (c0 s0 : Nat) (l0 : Nat) (l4 : Int32) (l5 : Int32) (l6 : Int32) (m : Mm) (o : Prop) : Mh wI l E mi_X12_stack c0 s0 133 [(0, .ref l0), (4, .int l4), (5, .int l5), (6, .int l6)] [] m o (f_X12_stack_133 l0 l4 l5 l6 m o) := by
  refine Mh_aload_n 0 rfl dX12_stack_133 ?_
  refine Mh_gR fd_11_10 fl_RX12_27 dX12_stack_134 ?_
  refine Mh_aload_n 0 rfl dX12_stack_137 ?_
  refine Mh_gI fd_11_2 fl_RX12_192 dX12_stack_138 ?_
  refine Mh_iload 1 rfl dX12_stack_141 ?_
  refine Mh_ias dX12_stack_143 ?_
  refine Mh_sub (lv' := [(0, .ref l0), (5, .int l5), (6, .int l6)]) [0, 2, 3] rfl ?_
  exact t_X12_stack_144 l E c0 s0 _ _ _ _ _
def f_X12_stack_123 (l0 : Nat) (l3 : Int32) (l4 : Int32) (l5 : Int32) (l6 : Int32) (m : Mm) (o : Prop) : Int32 × Mm × Prop := f_X12_stack_133 l0 l4 l5 l6 (sI m (gR m l0 9) (ix (gI m l0 2)) l3) (((o ∧ (gT m l0 = 12 ∧ gR m l0 9 ≠ 0)) ∧ gT m l0 = 12) ∧ (gT m (gR m l0 9) = 20 ∧ vp_in (gI m l0 2) (gN m (gR m l0 9))))
set_option maxRecDepth 10000 in
theorem t_X12_stack_123 (l : Launch) (E : En) (c0 s0 : Nat) (l0 : Nat) (l3 : Int32) (l4 : Int32) (l5 : Int32) (l6 : Int32) (m : Mm) (o : Prop) : Mh wI l E mi_X12_stack c0 s0 123 [(0, .ref l0), (3, .int l3), (4, .int l4), (5, .int l5), (6, .int l6)] [] m o (f_X12_stack_123 l0 l3 l4 l5 l6 m o) := by
  refine Mh_aload_n 0 rfl dX12_stack_123 ?_
  refine Mh_gR fd_11_9 fl_RX12_24 dX12_stack_124 ?_
  refine Mh_aload_n 0 rfl dX12_stack_127 ?_
  refine Mh_gI fd_11_2 fl_RX12_192 dX12_stack_128 ?_
  refine Mh_iload_n 1 rfl dX12_stack_131 ?_
  refine Mh_ias dX12_stack_132 ?_
  refine Mh_sub (lv' := [(0, .ref l0), (4, .int l4), (5, .int l5), (6, .int l6)]) [0, 2, 3, 4] rfl ?_
  exact t_X12_stack_133 l E c0 s0 _ _ _ _ _ _
def f_X12_stack_64b (k64 : Nat → Int32 → Int32 → Int32 → Int32 → Int32 → Int32 → Int32 → Mm → Prop → Int32 × Mm × Prop) (l0 : Nat) (l1 : Int32) (l2 : Int32) (l3 : Int32) (l4 : Int32) (l5 : Int32) (l6 : Int32) (l7 : Int32) (m : Mm) (o : Prop) : Int32 × Mm × Prop := if (gI m l0 2) ≤ l7 then (f_X12_stack_123 l0 l3 l4 l5 l6 (sI m (gR m l0 8) (ix (gI m l0 2)) (((10 : Int32) * l2) + l1)) (((o ∧ gT m l0 = 12) ∧ (gT m l0 = 12 ∧ gR m l0 8 ≠ 0)) ∧ (gT m (gR m l0 8) = 20 ∧ vp_in (gI m l0 2) (gN m (gR m l0 8))))) else (if (gI m (gR m l0 14) (ix l7)) = 0 then (f_X12_stack_102 k64 l0 l1 l2 l3 l4 l5 l6 l7 m (((o ∧ gT m l0 = 12) ∧ (gT m l0 = 12 ∧ gR m l0 14 ≠ 0)) ∧ (gT m (gR m l0 14) = 22 ∧ vp_in l7 (gN m (gR m l0 14))))) else (if (gI m (gR m l0 8) (ix l7)) = (((10 : Int32) * l2) + l1) then ((-2 : Int32), m, (((((o ∧ gT m l0 = 12) ∧ (gT m l0 = 12 ∧ gR m l0 14 ≠ 0)) ∧ (gT m (gR m l0 14) = 22 ∧ vp_in l7 (gN m (gR m l0 14)))) ∧ (gT m l0 = 12 ∧ gR m l0 8 ≠ 0)) ∧ (gT m (gR m l0 8) = 20 ∧ vp_in l7 (gN m (gR m l0 8))))) else (f_X12_stack_102 k64 l0 l1 l2 l3 l4 l5 l6 l7 m (((((o ∧ gT m l0 = 12) ∧ (gT m l0 = 12 ∧ gR m l0 14 ≠ 0)) ∧ (gT m (gR m l0 14) = 22 ∧ vp_in l7 (gN m (gR m l0 14)))) ∧ (gT m l0 = 12 ∧ gR m l0 8 ≠ 0)) ∧ (gT m (gR m l0 8) = 20 ∧ vp_in l7 (gN m (gR m l0 8)))))))
set_option maxRecDepth 10000 in
theorem t_X12_stack_64b (l : Launch) (E : En) (c0 s0 : Nat) (k64 : Nat → Int32 → Int32 → Int32 → Int32 → Int32 → Int32 → Int32 → Mm → Prop → Int32 × Mm × Prop) (hk64 : ∀ (l0 : Nat) (l1 : Int32) (l2 : Int32) (l3 : Int32) (l4 : Int32) (l5 : Int32) (l6 : Int32) (l7 : Int32) (m : Mm) (o : Prop), Mh wI l E mi_X12_stack c0 s0 64 [(0, .ref l0), (1, .int l1), (2, .int l2), (3, .int l3), (4, .int l4), (5, .int l5), (6, .int l6), (7, .int l7)] [] m o (k64 l0 l1 l2 l3 l4 l5 l6 l7 m o)) (l0 : Nat) (l1 : Int32) (l2 : Int32) (l3 : Int32) (l4 : Int32) (l5 : Int32) (l6 : Int32) (l7 : Int32) (m : Mm) (o : Prop) : Mh wI l E mi_X12_stack c0 s0 64 [(0, .ref l0), (1, .int l1), (2, .int l2), (3, .int l3), (4, .int l4), (5, .int l5), (6, .int l6), (7, .int l7)] [] m o (f_X12_stack_64b k64 l0 l1 l2 l3 l4 l5 l6 l7 m o) := by
  refine Mh_iload 7 rfl dX12_stack_64 ?_
  refine Mh_aload_n 0 rfl dX12_stack_66 ?_
  refine Mh_gI fd_11_2 fl_RX12_192 dX12_stack_67 ?_
  refine Mh_icmp_ge (tgt := 108) dX12_stack_70 (by decide) rfl (fun _ => ?_) (fun _ => ?_)
  · refine Mh_aload_n 0 rfl dX12_stack_108 ?_
    refine Mh_gR fd_11_8 fl_RX12_20 dX12_stack_109 ?_
    refine Mh_aload_n 0 rfl dX12_stack_112 ?_
    refine Mh_gI fd_11_2 fl_RX12_192 dX12_stack_113 ?_
    refine Mh_ok (fun h => h.1.2) ?_
    refine Mh_bipush (v := 10) dX12_stack_116 (by decide) ?_
    refine Mh_iload_n 2 rfl dX12_stack_118 ?_
    refine Mh_imul dX12_stack_119 ?_
    refine Mh_iload_n 1 rfl dX12_stack_120 ?_
    refine Mh_iadd dX12_stack_121 ?_
    refine Mh_ias dX12_stack_122 ?_
    refine Mh_sub (lv' := [(0, .ref l0), (3, .int l3), (4, .int l4), (5, .int l5), (6, .int l6)]) [0, 3, 4, 5, 6] rfl ?_
    exact t_X12_stack_123 l E c0 s0 _ _ _ _ _ _ _
  · refine Mh_aload_n 0 rfl dX12_stack_73 ?_
    refine Mh_gR fd_11_14 fl_RX12_39 dX12_stack_74 ?_
    refine Mh_iload 7 rfl dX12_stack_77 ?_
    refine Mh_zal dX12_stack_79 ?_
    refine Mh_if_eq (tgt := 102) dX12_stack_80 (by decide) rfl (fun _ => ?_) (fun _ => ?_)
    · exact t_X12_stack_102 l E c0 s0 k64 hk64 _ _ _ _ _ _ _ _ _ _
    · refine Mh_aload_n 0 rfl dX12_stack_83 ?_
      refine Mh_gR fd_11_8 fl_RX12_20 dX12_stack_84 ?_
      refine Mh_iload 7 rfl dX12_stack_87 ?_
      refine Mh_ial dX12_stack_89 ?_
      refine Mh_bipush (v := 10) dX12_stack_90 (by decide) ?_
      refine Mh_iload_n 2 rfl dX12_stack_92 ?_
      refine Mh_imul dX12_stack_93 ?_
      refine Mh_iload_n 1 rfl dX12_stack_94 ?_
      refine Mh_iadd dX12_stack_95 ?_
      refine Mh_icmp_ne (tgt := 102) dX12_stack_96 (by decide) rfl (fun _ => ?_) (fun _ => ?_)
      · exact t_X12_stack_102 l E c0 s0 k64 hk64 _ _ _ _ _ _ _ _ _ _
      · refine Mh_bipush (v := (-2)) dX12_stack_99 (by decide) ?_
        exact Mh_ret dX12_stack_101 rfl (fun _ => rfl) rfl
def f_X12_stack_64 : Nat → Nat → Int32 → Int32 → Int32 → Int32 → Int32 → Int32 → Int32 → Mm → Prop → Int32 × Mm × Prop
  | 0, _, _, _, _, _, _, _, _, m, _ => (0, m, False)
  | n + 1, l0, l1, l2, l3, l4, l5, l6, l7, m, o => f_X12_stack_64b (f_X12_stack_64 n) l0 l1 l2 l3 l4 l5 l6 l7 m o
theorem t_X12_stack_64 (l : Launch) (E : En) (c0 s0 : Nat) : ∀ (n : Nat) (l0 : Nat) (l1 : Int32) (l2 : Int32) (l3 : Int32) (l4 : Int32) (l5 : Int32) (l6 : Int32) (l7 : Int32) (m : Mm) (o : Prop), Mh wI l E mi_X12_stack c0 s0 64 [(0, .ref l0), (1, .int l1), (2, .int l2), (3, .int l3), (4, .int l4), (5, .int l5), (6, .int l6), (7, .int l7)] [] m o (f_X12_stack_64 n l0 l1 l2 l3 l4 l5 l6 l7 m o)
  | 0, _, _, _, _, _, _, _, _, _, _ => Mh_out rfl
  | n + 1, l0, l1, l2, l3, l4, l5, l6, l7, m, o => t_X12_stack_64b l E c0 s0 (f_X12_stack_64 n) (t_X12_stack_64 l E c0 s0 n) l0 l1 l2 l3 l4 l5 l6 l7 m o
def f_X12_stack_47 (l0 : Nat) (l1 : Int32) (l2 : Int32) (l3 : Int32) (l4 : Int32) (l5 : Int32) (l6 : Int32) (y0 : Int32) (m : Mm) (o : Prop) : Int32 × Mm × Prop := if y0 = 0 then (f_X12_stack_59  m o) else (if (gI m l0 2) = (12 : Int32) then (f_X12_stack_59  m (o ∧ gT m l0 = 12)) else (f_X12_stack_64 1000 l0 l1 l2 l3 l4 l5 l6 (0 : Int32) m (o ∧ gT m l0 = 12)))
set_option maxRecDepth 10000 in
theorem t_X12_stack_47 (l : Launch) (E : En) (c0 s0 : Nat) (l0 : Nat) (l1 : Int32) (l2 : Int32) (l3 : Int32) (l4 : Int32) (l5 : Int32) (l6 : Int32) (y0 : Int32) (m : Mm) (o : Prop) : Mh wI l E mi_X12_stack c0 s0 47 [(0, .ref l0), (1, .int l1), (2, .int l2), (3, .int l3), (4, .int l4), (5, .int l5), (6, .int l6)] [.int y0] m o (f_X12_stack_47 l0 l1 l2 l3 l4 l5 l6 y0 m o) := by
  refine Mh_if_eq (tgt := 59) dX12_stack_47 (by decide) rfl (fun _ => ?_) (fun _ => ?_)
  · refine Mh_sub (lv' := []) [] rfl ?_
    exact t_X12_stack_59 l E c0 s0  _ _
  · refine Mh_aload_n 0 rfl dX12_stack_50 ?_
    refine Mh_gI fd_11_2 fl_RX12_192 dX12_stack_51 ?_
    refine Mh_bipush (v := 12) dX12_stack_54 (by decide) ?_
    refine Mh_icmp_ne (tgt := 61) dX12_stack_56 (by decide) rfl (fun _ => ?_) (fun _ => ?_)
    · refine Mh_iconst (v := 0) dX12_stack_61 (by decide) ?_
      refine Mh_istore (lv' := [(7, .int (0 : Int32)), (0, .ref l0), (1, .int l1), (2, .int l2), (3, .int l3), (4, .int l4), (5, .int l5), (6, .int l6)]) dX12_stack_62 (Nat.le_of_ble_eq_true rfl) rfl ?_
      refine Mh_sub (lv' := [(0, .ref l0), (1, .int l1), (2, .int l2), (3, .int l3), (4, .int l4), (5, .int l5), (6, .int l6), (7, .int (0 : Int32))]) [1, 2, 3, 4, 5, 6, 7, 0] rfl ?_
      exact t_X12_stack_64 l E c0 s0 _ _ _ _ _ _ _ _ _ _ _
    · refine Mh_sub (lv' := []) [] rfl ?_
      exact t_X12_stack_59 l E c0 s0  _ _
def f_X12_stack_39 (l0 : Nat) (l1 : Int32) (l2 : Int32) (l3 : Int32) (l4 : Int32) (l5 : Int32) (l6 : Int32) (y0 : Int32) (m : Mm) (o : Prop) : Int32 × Mm × Prop := if y0 = 0 then (f_X12_stack_59  m o) else (bnd (F_X12_isFull l6 m o) (fun v1 m1 o1 => f_X12_stack_47 l0 l1 l2 l3 l4 l5 l6 v1 m1 o1))
set_option maxRecDepth 10000 in
theorem t_X12_stack_39 (l : Launch) (E : En) (c0 s0 : Nat) (l0 : Nat) (l1 : Int32) (l2 : Int32) (l3 : Int32) (l4 : Int32) (l5 : Int32) (l6 : Int32) (y0 : Int32) (m : Mm) (o : Prop) : Mh wI l E mi_X12_stack c0 s0 39 [(0, .ref l0), (1, .int l1), (2, .int l2), (3, .int l3), (4, .int l4), (5, .int l5), (6, .int l6)] [.int y0] m o (f_X12_stack_39 l0 l1 l2 l3 l4 l5 l6 y0 m o) := by
  refine Mh_if_eq (tgt := 59) dX12_stack_39 (by decide) rfl (fun _ => ?_) (fun _ => ?_)
  · refine Mh_sub (lv' := []) [] rfl ?_
    exact t_X12_stack_59 l E c0 s0  _ _
  · refine Mh_iload 6 rfl dX12_stack_42 ?_
    refine Mh_csI (N := mi_X12_isFull) (as := [.int l6]) (st := []) cg_yX12_isFull (.inl ml_RX12_214) sv_yX12_isFull pd_yX12_isFull rfl (by decide) (Nat.le_of_ble_eq_true rfl) rfl dX12_stack_44 (T_X12_isFull l E _ _ _) rfl ?_
    exact t_X12_stack_47 l E c0 s0 _ _ _ _ _ _ _ _ _ _
def f_X12_stack_31 (l0 : Nat) (l1 : Int32) (l2 : Int32) (l3 : Int32) (l4 : Int32) (l5 : Int32) (l6 : Int32) (y0 : Int32) (m : Mm) (o : Prop) : Int32 × Mm × Prop := if y0 = 0 then (f_X12_stack_59  m o) else (bnd (F_X12_isFull l5 m o) (fun v1 m1 o1 => f_X12_stack_39 l0 l1 l2 l3 l4 l5 l6 v1 m1 o1))
set_option maxRecDepth 10000 in
theorem t_X12_stack_31 (l : Launch) (E : En) (c0 s0 : Nat) (l0 : Nat) (l1 : Int32) (l2 : Int32) (l3 : Int32) (l4 : Int32) (l5 : Int32) (l6 : Int32) (y0 : Int32) (m : Mm) (o : Prop) : Mh wI l E mi_X12_stack c0 s0 31 [(0, .ref l0), (1, .int l1), (2, .int l2), (3, .int l3), (4, .int l4), (5, .int l5), (6, .int l6)] [.int y0] m o (f_X12_stack_31 l0 l1 l2 l3 l4 l5 l6 y0 m o) := by
  refine Mh_if_eq (tgt := 59) dX12_stack_31 (by decide) rfl (fun _ => ?_) (fun _ => ?_)
  · refine Mh_sub (lv' := []) [] rfl ?_
    exact t_X12_stack_59 l E c0 s0  _ _
  · refine Mh_iload 5 rfl dX12_stack_34 ?_
    refine Mh_csI (N := mi_X12_isFull) (as := [.int l5]) (st := []) cg_yX12_isFull (.inl ml_RX12_214) sv_yX12_isFull pd_yX12_isFull rfl (by decide) (Nat.le_of_ble_eq_true rfl) rfl dX12_stack_36 (T_X12_isFull l E _ _ _) rfl ?_
    exact t_X12_stack_39 l E c0 s0 _ _ _ _ _ _ _ _ _ _
def f_X12_stack_18 (l0 : Nat) (l1 : Int32) (l2 : Int32) (l3 : Int32) (l4 : Int32) (l5 : Int32) (l6 : Int32) (y0 : Int32) (m : Mm) (o : Prop) : Int32 × Mm × Prop := if y0 = 0 then (f_X12_stack_59  m o) else (bnd (F_X12_lies (Int32.toInt64 l4) (0 : Int64) (999 : Int64) m o) (fun v1 m1 o1 => f_X12_stack_31 l0 l1 l2 l3 l4 l5 l6 v1 m1 o1))
set_option maxRecDepth 10000 in
theorem t_X12_stack_18 (l : Launch) (E : En) (c0 s0 : Nat) (l0 : Nat) (l1 : Int32) (l2 : Int32) (l3 : Int32) (l4 : Int32) (l5 : Int32) (l6 : Int32) (y0 : Int32) (m : Mm) (o : Prop) : Mh wI l E mi_X12_stack c0 s0 18 [(0, .ref l0), (1, .int l1), (2, .int l2), (3, .int l3), (4, .int l4), (5, .int l5), (6, .int l6)] [.int y0] m o (f_X12_stack_18 l0 l1 l2 l3 l4 l5 l6 y0 m o) := by
  refine Mh_if_eq (tgt := 59) dX12_stack_18 (by decide) rfl (fun _ => ?_) (fun _ => ?_)
  · refine Mh_sub (lv' := []) [] rfl ?_
    exact t_X12_stack_59 l E c0 s0  _ _
  · refine Mh_iload 4 rfl dX12_stack_21 ?_
    refine Mh_i2l dX12_stack_23 ?_
    refine Mh_lconst (v := 0) dX12_stack_24 (by decide) ?_
    refine Mh_ldc2 (v := 999) gl_RX12_212 dX12_stack_25 ?_
    refine Mh_csI (N := mi_X12_lies) (as := [.long (Int32.toInt64 l4), .long (0 : Int64), .long (999 : Int64)]) (st := []) cg_yX12_lies (.inl ml_RX12_188) sv_yX12_lies pd_yX12_lies rfl (by decide) (Nat.le_of_ble_eq_true rfl) rfl dX12_stack_28 (T_X12_lies l E _ _ _ _ _) rfl ?_
    exact t_X12_stack_31 l E c0 s0 _ _ _ _ _ _ _ _ _ _
def f_X12_stack_11 (l0 : Nat) (l1 : Int32) (l2 : Int32) (l3 : Int32) (l4 : Int32) (l5 : Int32) (l6 : Int32) (y0 : Int32) (m : Mm) (o : Prop) : Int32 × Mm × Prop := if y0 = 0 then (f_X12_stack_59  m o) else (bnd (F_X12_isColour l3 m o) (fun v1 m1 o1 => f_X12_stack_18 l0 l1 l2 l3 l4 l5 l6 v1 m1 o1))
set_option maxRecDepth 10000 in
theorem t_X12_stack_11 (l : Launch) (E : En) (c0 s0 : Nat) (l0 : Nat) (l1 : Int32) (l2 : Int32) (l3 : Int32) (l4 : Int32) (l5 : Int32) (l6 : Int32) (y0 : Int32) (m : Mm) (o : Prop) : Mh wI l E mi_X12_stack c0 s0 11 [(0, .ref l0), (1, .int l1), (2, .int l2), (3, .int l3), (4, .int l4), (5, .int l5), (6, .int l6)] [.int y0] m o (f_X12_stack_11 l0 l1 l2 l3 l4 l5 l6 y0 m o) := by
  refine Mh_if_eq (tgt := 59) dX12_stack_11 (by decide) rfl (fun _ => ?_) (fun _ => ?_)
  · refine Mh_sub (lv' := []) [] rfl ?_
    exact t_X12_stack_59 l E c0 s0  _ _
  · refine Mh_iload_n 3 rfl dX12_stack_14 ?_
    refine Mh_csI (N := mi_X12_isColour) (as := [.int l3]) (st := []) cg_yX12_isColour (.inl ml_RX12_209) sv_yX12_isColour pd_yX12_isColour rfl (by decide) (Nat.le_of_ble_eq_true rfl) rfl dX12_stack_15 (T_X12_isColour l E _ _ _) rfl ?_
    exact t_X12_stack_18 l E c0 s0 _ _ _ _ _ _ _ _ _ _
def f_X12_stack_4 (l0 : Nat) (l1 : Int32) (l2 : Int32) (l3 : Int32) (l4 : Int32) (l5 : Int32) (l6 : Int32) (y0 : Int32) (m : Mm) (o : Prop) : Int32 × Mm × Prop := if y0 = 0 then (f_X12_stack_59  m o) else (bnd (F_X12_isSide l2 m o) (fun v1 m1 o1 => f_X12_stack_11 l0 l1 l2 l3 l4 l5 l6 v1 m1 o1))
set_option maxRecDepth 10000 in
theorem t_X12_stack_4 (l : Launch) (E : En) (c0 s0 : Nat) (l0 : Nat) (l1 : Int32) (l2 : Int32) (l3 : Int32) (l4 : Int32) (l5 : Int32) (l6 : Int32) (y0 : Int32) (m : Mm) (o : Prop) : Mh wI l E mi_X12_stack c0 s0 4 [(0, .ref l0), (1, .int l1), (2, .int l2), (3, .int l3), (4, .int l4), (5, .int l5), (6, .int l6)] [.int y0] m o (f_X12_stack_4 l0 l1 l2 l3 l4 l5 l6 y0 m o) := by
  refine Mh_if_eq (tgt := 59) dX12_stack_4 (by decide) rfl (fun _ => ?_) (fun _ => ?_)
  · refine Mh_sub (lv' := []) [] rfl ?_
    exact t_X12_stack_59 l E c0 s0  _ _
  · refine Mh_iload_n 2 rfl dX12_stack_7 ?_
    refine Mh_csI (N := mi_X12_isSide) (as := [.int l2]) (st := []) cg_yX12_isSide (.inl ml_RX12_206) sv_yX12_isSide pd_yX12_isSide rfl (by decide) (Nat.le_of_ble_eq_true rfl) rfl dX12_stack_8 (T_X12_isSide l E _ _ _) rfl ?_
    exact t_X12_stack_11 l E c0 s0 _ _ _ _ _ _ _ _ _ _
def f_X12_stack_0 (l0 : Nat) (l1 : Int32) (l2 : Int32) (l3 : Int32) (l4 : Int32) (l5 : Int32) (l6 : Int32) (m : Mm) (o : Prop) : Int32 × Mm × Prop := bnd (F_X12_isSide l1 m o) (fun v1 m1 o1 => f_X12_stack_4 l0 l1 l2 l3 l4 l5 l6 v1 m1 o1)
set_option maxRecDepth 10000 in
theorem t_X12_stack_0 (l : Launch) (E : En) (c0 s0 : Nat) (l0 : Nat) (l1 : Int32) (l2 : Int32) (l3 : Int32) (l4 : Int32) (l5 : Int32) (l6 : Int32) (m : Mm) (o : Prop) : Mh wI l E mi_X12_stack c0 s0 0 [(0, .ref l0), (1, .int l1), (2, .int l2), (3, .int l3), (4, .int l4), (5, .int l5), (6, .int l6)] [] m o (f_X12_stack_0 l0 l1 l2 l3 l4 l5 l6 m o) := by
  refine Mh_iload_n 1 rfl dX12_stack_0 ?_
  refine Mh_csI (N := mi_X12_isSide) (as := [.int l1]) (st := []) cg_yX12_isSide (.inl ml_RX12_206) sv_yX12_isSide pd_yX12_isSide rfl (by decide) (Nat.le_of_ble_eq_true rfl) rfl dX12_stack_1 (T_X12_isSide l E _ _ _) rfl ?_
  exact t_X12_stack_4 l E c0 s0 _ _ _ _ _ _ _ _ _ _
def F_X12_stack (a0 : Nat) (a1 : Int32) (a2 : Int32) (a3 : Int32) (a4 : Int32) (a5 : Int32) (a6 : Int32) (m : Mm) (o : Prop) : Int32 × Mm × Prop := f_X12_stack_0 a0 a1 a2 a3 a4 a5 a6 m o
theorem T_X12_stack (l : Launch) (E : En) (a0 : Nat) (a1 : Int32) (a2 : Int32) (a3 : Int32) (a4 : Int32) (a5 : Int32) (a6 : Int32) (m : Mm) (o : Prop) : Mt wI l E yX12_stack mi_X12_stack [.ref a0, .int a1, .int a2, .int a3, .int a4, .int a5, .int a6] m o (F_X12_stack a0 a1 a2 a3 a4 a5 a6 m o) :=
  Mt_I (by decide) rfl rfl rfl (Nat.le_of_ble_eq_true rfl) rfl (.inl rfl) (t_X12_stack_0 l E _ _ _ _ _ _ _ _ _ _ _)
def f_X12_stackIs_108 (y0 : Int32) (m : Mm) (o : Prop) : Int32 × Mm × Prop := (y0, m, o)
set_option maxRecDepth 10000 in
theorem t_X12_stackIs_108 (l : Launch) (E : En) (c0 s0 : Nat) (y0 : Int32) (m : Mm) (o : Prop) : Mh wI l E mi_X12_stackIs c0 s0 108 [] [.int y0] m o (f_X12_stackIs_108 y0 m o) := by
  exact Mh_ret dX12_stackIs_108 rfl (fun _ => rfl) rfl
def f_X12_stackIs_5 (l0 : Nat) (l1 : Int32) (l2 : Int32) (y0 : Int32) (m : Mm) (o : Prop) : Int32 × Mm × Prop := if y0 = 0 then ((-1 : Int32), m, o) else (if l2 = 0 then (gI m (gR m l0 8) (ix l1), m, ((o ∧ (gT m l0 = 12 ∧ gR m l0 8 ≠ 0)) ∧ (gT m (gR m l0 8) = 20 ∧ vp_in l1 (gN m (gR m l0 8))))) else if l2 = 1 then (gI m (gR m l0 9) (ix l1), m, ((o ∧ (gT m l0 = 12 ∧ gR m l0 9 ≠ 0)) ∧ (gT m (gR m l0 9) = 20 ∧ vp_in l1 (gN m (gR m l0 9))))) else if l2 = 2 then (gI m (gR m l0 10) (ix l1), m, ((o ∧ (gT m l0 = 12 ∧ gR m l0 10 ≠ 0)) ∧ (gT m (gR m l0 10) = 20 ∧ vp_in l1 (gN m (gR m l0 10))))) else if l2 = 3 then (gI m (gR m l0 11) (ix l1), m, ((o ∧ (gT m l0 = 12 ∧ gR m l0 11 ≠ 0)) ∧ (gT m (gR m l0 11) = 20 ∧ vp_in l1 (gN m (gR m l0 11))))) else if l2 = 4 then (gI m (gR m l0 12) (ix l1), m, ((o ∧ (gT m l0 = 12 ∧ gR m l0 12 ≠ 0)) ∧ (gT m (gR m l0 12) = 20 ∧ vp_in l1 (gN m (gR m l0 12))))) else if l2 = 5 then (gI m (gR m l0 13) (ix l1), m, ((o ∧ (gT m l0 = 12 ∧ gR m l0 13 ≠ 0)) ∧ (gT m (gR m l0 13) = 20 ∧ vp_in l1 (gN m (gR m l0 13))))) else if l2 = 6 then (if (gI m (gR m l0 14) (ix l1)) = 0 then (f_X12_stackIs_108 (0 : Int32) m ((o ∧ (gT m l0 = 12 ∧ gR m l0 14 ≠ 0)) ∧ (gT m (gR m l0 14) = 22 ∧ vp_in l1 (gN m (gR m l0 14))))) else (f_X12_stackIs_108 (1 : Int32) m ((o ∧ (gT m l0 = 12 ∧ gR m l0 14 ≠ 0)) ∧ (gT m (gR m l0 14) = 22 ∧ vp_in l1 (gN m (gR m l0 14)))))) else ((-1 : Int32), m, o))
set_option maxRecDepth 10000 in
theorem t_X12_stackIs_5 (l : Launch) (E : En) (c0 s0 : Nat) (l0 : Nat) (l1 : Int32) (l2 : Int32) (y0 : Int32) (m : Mm) (o : Prop) : Mh wI l E mi_X12_stackIs c0 s0 5 [(0, .ref l0), (1, .int l1), (2, .int l2)] [.int y0] m o (f_X12_stackIs_5 l0 l1 l2 y0 m o) := by
  refine Mh_if_ne (tgt := 10) dX12_stackIs_5 (by decide) rfl (fun _ => ?_) (fun _ => ?_)
  · refine Mh_iload_n 2 rfl dX12_stackIs_10 ?_
    refine Mh_ite (C := l2 = 0) rfl (fun hs0 => ?_) (fun hs0 => ?_)
    · refine Mh_tsi (off := 41) (tgt := 52) dX12_stackIs_11 (by rw [hs0]; decide) (by rw [hs0]; decide) (by rw [hs0]; decide) (by decide) ?_
      refine Mh_aload_n 0 rfl dX12_stackIs_52 ?_
      refine Mh_gR fd_11_8 fl_RX12_20 dX12_stackIs_53 ?_
      refine Mh_iload_n 1 rfl dX12_stackIs_56 ?_
      refine Mh_ial dX12_stackIs_57 ?_
      exact Mh_ret dX12_stackIs_58 rfl (fun _ => rfl) rfl
    refine Mh_ite (C := l2 = 1) rfl (fun hs1 => ?_) (fun hs1 => ?_)
    · refine Mh_tsi (off := 48) (tgt := 59) dX12_stackIs_11 (by rw [hs1]; decide) (by rw [hs1]; decide) (by rw [hs1]; decide) (by decide) ?_
      refine Mh_aload_n 0 rfl dX12_stackIs_59 ?_
      refine Mh_gR fd_11_9 fl_RX12_24 dX12_stackIs_60 ?_
      refine Mh_iload_n 1 rfl dX12_stackIs_63 ?_
      refine Mh_ial dX12_stackIs_64 ?_
      exact Mh_ret dX12_stackIs_65 rfl (fun _ => rfl) rfl
    refine Mh_ite (C := l2 = 2) rfl (fun hs2 => ?_) (fun hs2 => ?_)
    · refine Mh_tsi (off := 55) (tgt := 66) dX12_stackIs_11 (by rw [hs2]; decide) (by rw [hs2]; decide) (by rw [hs2]; decide) (by decide) ?_
      refine Mh_aload_n 0 rfl dX12_stackIs_66 ?_
      refine Mh_gR fd_11_10 fl_RX12_27 dX12_stackIs_67 ?_
      refine Mh_iload_n 1 rfl dX12_stackIs_70 ?_
      refine Mh_ial dX12_stackIs_71 ?_
      exact Mh_ret dX12_stackIs_72 rfl (fun _ => rfl) rfl
    refine Mh_ite (C := l2 = 3) rfl (fun hs3 => ?_) (fun hs3 => ?_)
    · refine Mh_tsi (off := 62) (tgt := 73) dX12_stackIs_11 (by rw [hs3]; decide) (by rw [hs3]; decide) (by rw [hs3]; decide) (by decide) ?_
      refine Mh_aload_n 0 rfl dX12_stackIs_73 ?_
      refine Mh_gR fd_11_11 fl_RX12_30 dX12_stackIs_74 ?_
      refine Mh_iload_n 1 rfl dX12_stackIs_77 ?_
      refine Mh_ial dX12_stackIs_78 ?_
      exact Mh_ret dX12_stackIs_79 rfl (fun _ => rfl) rfl
    refine Mh_ite (C := l2 = 4) rfl (fun hs4 => ?_) (fun hs4 => ?_)
    · refine Mh_tsi (off := 69) (tgt := 80) dX12_stackIs_11 (by rw [hs4]; decide) (by rw [hs4]; decide) (by rw [hs4]; decide) (by decide) ?_
      refine Mh_aload_n 0 rfl dX12_stackIs_80 ?_
      refine Mh_gR fd_11_12 fl_RX12_33 dX12_stackIs_81 ?_
      refine Mh_iload_n 1 rfl dX12_stackIs_84 ?_
      refine Mh_ial dX12_stackIs_85 ?_
      exact Mh_ret dX12_stackIs_86 rfl (fun _ => rfl) rfl
    refine Mh_ite (C := l2 = 5) rfl (fun hs5 => ?_) (fun hs5 => ?_)
    · refine Mh_tsi (off := 76) (tgt := 87) dX12_stackIs_11 (by rw [hs5]; decide) (by rw [hs5]; decide) (by rw [hs5]; decide) (by decide) ?_
      refine Mh_aload_n 0 rfl dX12_stackIs_87 ?_
      refine Mh_gR fd_11_13 fl_RX12_36 dX12_stackIs_88 ?_
      refine Mh_iload_n 1 rfl dX12_stackIs_91 ?_
      refine Mh_ial dX12_stackIs_92 ?_
      exact Mh_ret dX12_stackIs_93 rfl (fun _ => rfl) rfl
    refine Mh_ite (C := l2 = 6) rfl (fun hs6 => ?_) (fun hs6 => ?_)
    · refine Mh_tsi (off := 83) (tgt := 94) dX12_stackIs_11 (by rw [hs6]; decide) (by rw [hs6]; decide) (by rw [hs6]; decide) (by decide) ?_
      refine Mh_aload_n 0 rfl dX12_stackIs_94 ?_
      refine Mh_gR fd_11_14 fl_RX12_39 dX12_stackIs_95 ?_
      refine Mh_iload_n 1 rfl dX12_stackIs_98 ?_
      refine Mh_zal dX12_stackIs_99 ?_
      refine Mh_if_eq (tgt := 107) dX12_stackIs_100 (by decide) rfl (fun _ => ?_) (fun _ => ?_)
      · refine Mh_iconst (v := 0) dX12_stackIs_107 (by decide) ?_
        refine Mh_sub (lv' := []) [] rfl ?_
        exact t_X12_stackIs_108 l E c0 s0 _ _ _
      · refine Mh_iconst (v := 1) dX12_stackIs_103 (by decide) ?_
        refine Mh_goto (tgt := 108) dX12_stackIs_104 (by decide) ?_
        refine Mh_sub (lv' := []) [] rfl ?_
        exact t_X12_stackIs_108 l E c0 s0 _ _ _
    refine Mh_tsd (tgt := 109) [0, 1, 2, 3, 4, 5, 6] dX12_stackIs_11 (by decide) (by decide) (List.forall_mem_cons.mpr ⟨lv_neT hs0 (by decide), List.forall_mem_cons.mpr ⟨lv_neT hs1 (by decide), List.forall_mem_cons.mpr ⟨lv_neT hs2 (by decide), List.forall_mem_cons.mpr ⟨lv_neT hs3 (by decide), List.forall_mem_cons.mpr ⟨lv_neT hs4 (by decide), List.forall_mem_cons.mpr ⟨lv_neT hs5 (by decide), List.forall_mem_cons.mpr ⟨lv_neT hs6 (by decide), fun _ h => absurd h List.not_mem_nil⟩⟩⟩⟩⟩⟩⟩) (by decide) ?_
    refine Mh_iconst (v := (-1)) dX12_stackIs_109 (by decide) ?_
    exact Mh_ret dX12_stackIs_110 rfl (fun _ => rfl) rfl
  · refine Mh_iconst (v := (-1)) dX12_stackIs_8 (by decide) ?_
    exact Mh_ret dX12_stackIs_9 rfl (fun _ => rfl) rfl
def f_X12_stackIs_0 (l0 : Nat) (l1 : Int32) (l2 : Int32) (m : Mm) (o : Prop) : Int32 × Mm × Prop := bnd (F_X12_isStack l0 l1 m (o ∧ gT m l0 = 12)) (fun v1 m1 o1 => f_X12_stackIs_5 l0 l1 l2 v1 m1 o1)
set_option maxRecDepth 10000 in
theorem t_X12_stackIs_0 (l : Launch) (E : En) (c0 s0 : Nat) (l0 : Nat) (l1 : Int32) (l2 : Int32) (m : Mm) (o : Prop) : Mh wI l E mi_X12_stackIs c0 s0 0 [(0, .ref l0), (1, .int l1), (2, .int l2)] [] m o (f_X12_stackIs_0 l0 l1 l2 m o) := by
  refine Mh_aload_n 0 rfl dX12_stackIs_0 ?_
  refine Mh_iload_n 1 rfl dX12_stackIs_1 ?_
  refine Mh_cvI (N := mi_X12_isStack) (q := l0) (ci := 11) (as := [.int l1]) (st := []) (id) cg_yX12_isStack (by decide) rfl rfl ml_RX12_195 iv_yX12_isStack pd_yX12_isStack rfl (by decide) (Nat.le_of_ble_eq_true rfl) rfl dX12_stackIs_2 (T_X12_isStack l E _ _ _ _) rfl ?_
  exact t_X12_stackIs_5 l E c0 s0 _ _ _ _ _ _
def F_X12_stackIs (a0 : Nat) (a1 : Int32) (a2 : Int32) (m : Mm) (o : Prop) : Int32 × Mm × Prop := f_X12_stackIs_0 a0 a1 a2 m o
theorem T_X12_stackIs (l : Launch) (E : En) (a0 : Nat) (a1 : Int32) (a2 : Int32) (m : Mm) (o : Prop) : Mt wI l E yX12_stackIs mi_X12_stackIs [.ref a0, .int a1, .int a2] m o (F_X12_stackIs a0 a1 a2 m o) :=
  Mt_I (by decide) rfl rfl rfl (Nat.le_of_ble_eq_true rfl) rfl (.inl rfl) (t_X12_stackIs_0 l E _ _ _ _ _ _ _)
def f_X12_canJoin_62 (y0 : Int32) (m : Mm) (o : Prop) : Int32 × Mm × Prop := (y0, m, o ∧ (y0 = 0 ∨ y0 = 1))
set_option maxRecDepth 10000 in
theorem t_X12_canJoin_62 (l : Launch) (E : En) (c0 s0 : Nat) (y0 : Int32) (m : Mm) (o : Prop) : Mh wI l E mi_X12_canJoin c0 s0 62 [] [.int y0] m o (f_X12_canJoin_62 y0 m o) := by
  exact Mh_retZ dX12_canJoin_62 (.inl rfl) rfl
def f_X12_canJoin_61 (m : Mm) (o : Prop) : Int32 × Mm × Prop := f_X12_canJoin_62 (0 : Int32) m o
set_option maxRecDepth 10000 in
theorem t_X12_canJoin_61 (l : Launch) (E : En) (c0 s0 : Nat) (m : Mm) (o : Prop) : Mh wI l E mi_X12_canJoin c0 s0 61 [] [] m o (f_X12_canJoin_61  m o) := by
  refine Mh_iconst (v := 0) dX12_canJoin_61 (by decide) ?_
  exact t_X12_canJoin_62 l E c0 s0 _ _ _
def f_X12_canJoin_53 (l3 : Int32) (y0 : Int32) (m : Mm) (o : Prop) : Int32 × Mm × Prop := if l3 < y0 then (f_X12_canJoin_61  m o) else (f_X12_canJoin_62 (1 : Int32) m o)
set_option maxRecDepth 10000 in
theorem t_X12_canJoin_53 (l : Launch) (E : En) (c0 s0 : Nat) (l3 : Int32) (y0 : Int32) (m : Mm) (o : Prop) : Mh wI l E mi_X12_canJoin c0 s0 53 [(3, .int l3)] [.int y0] m o (f_X12_canJoin_53 l3 y0 m o) := by
  refine Mh_iload_n 0 rfl dX12_canJoin_53 ?_
  refine Mh_icmp_gt (tgt := 61) dX12_canJoin_54 (by decide) rfl (fun _ => ?_) (fun _ => ?_)
  · refine Mh_sub (lv' := []) [] rfl ?_
    exact t_X12_canJoin_61 l E c0 s0  _ _
  · refine Mh_iconst (v := 1) dX12_canJoin_57 (by decide) ?_
    refine Mh_goto (tgt := 62) dX12_canJoin_58 (by decide) ?_
    refine Mh_sub (lv' := []) [] rfl ?_
    exact t_X12_canJoin_62 l E c0 s0 _ _ _
def f_X12_canJoin_0 (l0 : Nat) (l1 : Int32) (l2 : Int32) (l3 : Int32) (m : Mm) (o : Prop) : Int32 × Mm × Prop := if l1 = l2 then (f_X12_canJoin_61  m o) else (if (gI m (gR m l0 14) (ix l1)) = 0 then (f_X12_canJoin_61  m ((o ∧ (gT m l0 = 12 ∧ gR m l0 14 ≠ 0)) ∧ (gT m (gR m l0 14) = 22 ∧ vp_in l1 (gN m (gR m l0 14))))) else (if (gI m (gR m l0 14) (ix l2)) = 0 then (f_X12_canJoin_61  m (((o ∧ (gT m l0 = 12 ∧ gR m l0 14 ≠ 0)) ∧ (gT m (gR m l0 14) = 22 ∧ vp_in l1 (gN m (gR m l0 14)))) ∧ (gT m (gR m l0 14) = 22 ∧ vp_in l2 (gN m (gR m l0 14))))) else (if (gI m (gR m l0 9) (ix l1)) = (gI m (gR m l0 9) (ix l2)) then (bnd (F_X12_wayOf (gI m (gR m l0 8) (ix l1)) (gI m (gR m l0 8) (ix l2)) m (((((((((o ∧ (gT m l0 = 12 ∧ gR m l0 14 ≠ 0)) ∧ (gT m (gR m l0 14) = 22 ∧ vp_in l1 (gN m (gR m l0 14)))) ∧ (gT m (gR m l0 14) = 22 ∧ vp_in l2 (gN m (gR m l0 14)))) ∧ (gT m l0 = 12 ∧ gR m l0 9 ≠ 0)) ∧ (gT m (gR m l0 9) = 20 ∧ vp_in l1 (gN m (gR m l0 9)))) ∧ (gT m (gR m l0 9) = 20 ∧ vp_in l2 (gN m (gR m l0 9)))) ∧ (gT m l0 = 12 ∧ gR m l0 8 ≠ 0)) ∧ (gT m (gR m l0 8) = 20 ∧ vp_in l1 (gN m (gR m l0 8)))) ∧ (gT m (gR m l0 8) = 20 ∧ vp_in l2 (gN m (gR m l0 8))))) (fun v1 m1 o1 => f_X12_canJoin_53 l3 v1 m1 o1)) else (f_X12_canJoin_61  m ((((((o ∧ (gT m l0 = 12 ∧ gR m l0 14 ≠ 0)) ∧ (gT m (gR m l0 14) = 22 ∧ vp_in l1 (gN m (gR m l0 14)))) ∧ (gT m (gR m l0 14) = 22 ∧ vp_in l2 (gN m (gR m l0 14)))) ∧ (gT m l0 = 12 ∧ gR m l0 9 ≠ 0)) ∧ (gT m (gR m l0 9) = 20 ∧ vp_in l1 (gN m (gR m l0 9)))) ∧ (gT m (gR m l0 9) = 20 ∧ vp_in l2 (gN m (gR m l0 9))))))))
set_option maxRecDepth 10000 in
theorem t_X12_canJoin_0 (l : Launch) (E : En) (c0 s0 : Nat) (l0 : Nat) (l1 : Int32) (l2 : Int32) (l3 : Int32) (m : Mm) (o : Prop) : Mh wI l E mi_X12_canJoin c0 s0 0 [(0, .ref l0), (1, .int l1), (2, .int l2), (3, .int l3)] [] m o (f_X12_canJoin_0 l0 l1 l2 l3 m o) := by
  refine Mh_iload_n 1 rfl dX12_canJoin_0 ?_
  refine Mh_iload_n 2 rfl dX12_canJoin_1 ?_
  refine Mh_icmp_eq (tgt := 61) dX12_canJoin_2 (by decide) rfl (fun _ => ?_) (fun _ => ?_)
  · refine Mh_sub (lv' := []) [] rfl ?_
    exact t_X12_canJoin_61 l E c0 s0  _ _
  · refine Mh_aload_n 0 rfl dX12_canJoin_5 ?_
    refine Mh_gR fd_11_14 fl_RX12_39 dX12_canJoin_6 ?_
    refine Mh_iload_n 1 rfl dX12_canJoin_9 ?_
    refine Mh_zal dX12_canJoin_10 ?_
    refine Mh_if_eq (tgt := 61) dX12_canJoin_11 (by decide) rfl (fun _ => ?_) (fun _ => ?_)
    · refine Mh_sub (lv' := []) [] rfl ?_
      exact t_X12_canJoin_61 l E c0 s0  _ _
    · refine Mh_aload_n 0 rfl dX12_canJoin_14 ?_
      refine Mh_gR fd_11_14 fl_RX12_39 dX12_canJoin_15 ?_
      refine Mh_ok (fun h => h.1.2) ?_
      refine Mh_iload_n 2 rfl dX12_canJoin_18 ?_
      refine Mh_zal dX12_canJoin_19 ?_
      refine Mh_if_eq (tgt := 61) dX12_canJoin_20 (by decide) rfl (fun _ => ?_) (fun _ => ?_)
      · refine Mh_sub (lv' := []) [] rfl ?_
        exact t_X12_canJoin_61 l E c0 s0  _ _
      · refine Mh_aload_n 0 rfl dX12_canJoin_23 ?_
        refine Mh_gR fd_11_9 fl_RX12_24 dX12_canJoin_24 ?_
        refine Mh_iload_n 1 rfl dX12_canJoin_27 ?_
        refine Mh_ial dX12_canJoin_28 ?_
        refine Mh_aload_n 0 rfl dX12_canJoin_29 ?_
        refine Mh_gR fd_11_9 fl_RX12_24 dX12_canJoin_30 ?_
        refine Mh_ok (fun h => h.1.2) ?_
        refine Mh_iload_n 2 rfl dX12_canJoin_33 ?_
        refine Mh_ial dX12_canJoin_34 ?_
        refine Mh_icmp_ne (tgt := 61) dX12_canJoin_35 (by decide) rfl (fun _ => ?_) (fun _ => ?_)
        · refine Mh_sub (lv' := []) [] rfl ?_
          exact t_X12_canJoin_61 l E c0 s0  _ _
        · refine Mh_aload_n 0 rfl dX12_canJoin_38 ?_
          refine Mh_gR fd_11_8 fl_RX12_20 dX12_canJoin_39 ?_
          refine Mh_iload_n 1 rfl dX12_canJoin_42 ?_
          refine Mh_ial dX12_canJoin_43 ?_
          refine Mh_aload_n 0 rfl dX12_canJoin_44 ?_
          refine Mh_gR fd_11_8 fl_RX12_20 dX12_canJoin_45 ?_
          refine Mh_ok (fun h => h.1.2) ?_
          refine Mh_iload_n 2 rfl dX12_canJoin_48 ?_
          refine Mh_ial dX12_canJoin_49 ?_
          refine Mh_csI (N := mi_X12_wayOf) (as := [.int (gI m (gR m l0 8) (ix l1)), .int (gI m (gR m l0 8) (ix l2))]) (st := []) cg_yX12_wayOf (.inl ml_RX12_355) sv_yX12_wayOf pd_yX12_wayOf rfl (by decide) (Nat.le_of_ble_eq_true rfl) rfl dX12_canJoin_50 (T_X12_wayOf l E _ _ _ _) rfl ?_
          refine Mh_sub (lv' := [(3, .int l3)]) [3] rfl ?_
          exact t_X12_canJoin_53 l E c0 s0 _ _ _ _
def F_X12_canJoin (a0 : Nat) (a1 : Int32) (a2 : Int32) (a3 : Int32) (m : Mm) (o : Prop) : Int32 × Mm × Prop := f_X12_canJoin_0 a0 a1 a2 a3 m o
theorem T_X12_canJoin (l : Launch) (E : En) (a0 : Nat) (a1 : Int32) (a2 : Int32) (a3 : Int32) (m : Mm) (o : Prop) : Mt wI l E yX12_canJoin mi_X12_canJoin [.ref a0, .int a1, .int a2, .int a3] m o (F_X12_canJoin a0 a1 a2 a3 m o) :=
  Mt_I (by decide) rfl rfl rfl (Nat.le_of_ble_eq_true rfl) rfl (.inr (.inl rfl)) (t_X12_canJoin_0 l E _ _ _ _ _ _ _ _)
def f_X12_joinsOne_178 (m : Mm) (o : Prop) : Int32 × Mm × Prop := ((1 : Int32), m, o)
set_option maxRecDepth 10000 in
theorem t_X12_joinsOne_178 (l : Launch) (E : En) (c0 s0 : Nat) (m : Mm) (o : Prop) : Mh wI l E mi_X12_joinsOne c0 s0 178 [] [] m o (f_X12_joinsOne_178  m o) := by
  refine Mh_iconst (v := 1) dX12_joinsOne_178 (by decide) ?_
  exact Mh_ret dX12_joinsOne_179 rfl (fun _ => rk1Z) rfl
def f_X12_joinsOne_171 (l0 : Nat) (l3 : Int32) (m : Mm) (o : Prop) : Int32 × Mm × Prop := f_X12_joinsOne_178  (sI m (gR m l0 14) (ix l3) ((0 : Int32) &&& 1)) ((o ∧ (gT m l0 = 12 ∧ gR m l0 14 ≠ 0)) ∧ (gT m (gR m l0 14) = 22 ∧ vp_in l3 (gN m (gR m l0 14))))
set_option maxRecDepth 10000 in
theorem t_X12_joinsOne_171 (l : Launch) (E : En) (c0 s0 : Nat) (l0 : Nat) (l3 : Int32) (m : Mm) (o : Prop) : Mh wI l E mi_X12_joinsOne c0 s0 171 [(0, .ref l0), (3, .int l3)] [] m o (f_X12_joinsOne_171 l0 l3 m o) := by
  refine Mh_aload_n 0 rfl dX12_joinsOne_171 ?_
  refine Mh_gR fd_11_14 fl_RX12_39 dX12_joinsOne_172 ?_
  refine Mh_iload_n 1 rfl dX12_joinsOne_175 ?_
  refine Mh_iconst (v := 0) dX12_joinsOne_176 (by decide) ?_
  refine Mh_zas dX12_joinsOne_177 ?_
  refine Mh_sub (lv' := []) [] rfl ?_
  exact t_X12_joinsOne_178 l E c0 s0  _ _
def f_X12_joinsOne_170 (l0 : Nat) (l3 : Int32) (y2 : Int32) (y1 : Int32) (y0 : Nat) (m : Mm) (o : Prop) : Int32 × Mm × Prop := f_X12_joinsOne_171 l0 l3 (sI m y0 (ix y1) y2) (o ∧ (gT m y0 = 20 ∧ vp_in y1 (gN m y0)))
set_option maxRecDepth 10000 in
theorem t_X12_joinsOne_170 (l : Launch) (E : En) (c0 s0 : Nat) (l0 : Nat) (l3 : Int32) (y2 : Int32) (y1 : Int32) (y0 : Nat) (m : Mm) (o : Prop) : Mh wI l E mi_X12_joinsOne c0 s0 170 [(0, .ref l0), (3, .int l3)] [.int y2, .int y1, .ref y0] m o (f_X12_joinsOne_170 l0 l3 y2 y1 y0 m o) := by
  refine Mh_ias dX12_joinsOne_170 ?_
  exact t_X12_joinsOne_171 l E c0 s0 _ _ _ _
def f_X12_joinsOne_135 (l0 : Nat) (l2 : Int32) (l3 : Int32) (m : Mm) (o : Prop) : Int32 × Mm × Prop := if (gI m (gR m l0 13) (ix l3)) ≤ (gI m (gR m l0 13) (ix l2)) then (f_X12_joinsOne_170 l0 l3 (gI m (gR m l0 13) (ix l2)) l2 (gR m l0 13) m (((o ∧ (gT m l0 = 12 ∧ gR m l0 13 ≠ 0)) ∧ (gT m (gR m l0 13) = 20 ∧ vp_in l3 (gN m (gR m l0 13)))) ∧ (gT m (gR m l0 13) = 20 ∧ vp_in l2 (gN m (gR m l0 13))))) else (f_X12_joinsOne_170 l0 l3 (gI m (gR m l0 13) (ix l3)) l2 (gR m l0 13) m (((o ∧ (gT m l0 = 12 ∧ gR m l0 13 ≠ 0)) ∧ (gT m (gR m l0 13) = 20 ∧ vp_in l3 (gN m (gR m l0 13)))) ∧ (gT m (gR m l0 13) = 20 ∧ vp_in l2 (gN m (gR m l0 13)))))
set_option maxRecDepth 10000 in
theorem t_X12_joinsOne_135 (l : Launch) (E : En) (c0 s0 : Nat) (l0 : Nat) (l2 : Int32) (l3 : Int32) (m : Mm) (o : Prop) : Mh wI l E mi_X12_joinsOne c0 s0 135 [(0, .ref l0), (2, .int l2), (3, .int l3)] [] m o (f_X12_joinsOne_135 l0 l2 l3 m o) := by
  refine Mh_aload_n 0 rfl dX12_joinsOne_135 ?_
  refine Mh_gR fd_11_13 fl_RX12_36 dX12_joinsOne_136 ?_
  refine Mh_iload_n 1 rfl dX12_joinsOne_139 ?_
  refine Mh_aload_n 0 rfl dX12_joinsOne_140 ?_
  refine Mh_gR fd_11_13 fl_RX12_36 dX12_joinsOne_141 ?_
  refine Mh_ok (fun h => h.2) ?_
  refine Mh_iload_n 2 rfl dX12_joinsOne_144 ?_
  refine Mh_ial dX12_joinsOne_145 ?_
  refine Mh_aload_n 0 rfl dX12_joinsOne_146 ?_
  refine Mh_gR fd_11_13 fl_RX12_36 dX12_joinsOne_147 ?_
  refine Mh_ok (fun h => h.1.2) ?_
  refine Mh_iload_n 1 rfl dX12_joinsOne_150 ?_
  refine Mh_ial dX12_joinsOne_151 ?_
  refine Mh_icmp_le (tgt := 164) dX12_joinsOne_152 (by decide) rfl (fun _ => ?_) (fun _ => ?_)
  · refine Mh_aload_n 0 rfl dX12_joinsOne_164 ?_
    refine Mh_gR fd_11_13 fl_RX12_36 dX12_joinsOne_165 ?_
    refine Mh_ok (fun h => h.1.1.2) ?_
    refine Mh_iload_n 1 rfl dX12_joinsOne_168 ?_
    refine Mh_ial dX12_joinsOne_169 ?_
    refine Mh_ok (fun h => h.2) ?_
    refine Mh_sub (lv' := [(0, .ref l0), (3, .int l3)]) [0, 2] rfl ?_
    exact t_X12_joinsOne_170 l E c0 s0 _ _ _ _ _ _ _
  · refine Mh_aload_n 0 rfl dX12_joinsOne_155 ?_
    refine Mh_gR fd_11_13 fl_RX12_36 dX12_joinsOne_156 ?_
    refine Mh_ok (fun h => h.1.1.2) ?_
    refine Mh_iload_n 2 rfl dX12_joinsOne_159 ?_
    refine Mh_ial dX12_joinsOne_160 ?_
    refine Mh_ok (fun h => h.1.2) ?_
    refine Mh_goto (tgt := 170) dX12_joinsOne_161 (by decide) ?_
    refine Mh_sub (lv' := [(0, .ref l0), (3, .int l3)]) [0, 2] rfl ?_
    exact t_X12_joinsOne_170 l E c0 s0 _ _ _ _ _ _ _
def f_X12_joinsOne_134 (l0 : Nat) (l2 : Int32) (l3 : Int32) (y2 : Int32) (y1 : Int32) (y0 : Nat) (m : Mm) (o : Prop) : Int32 × Mm × Prop := f_X12_joinsOne_135 l0 l2 l3 (sI m y0 (ix y1) y2) (o ∧ (gT m y0 = 20 ∧ vp_in y1 (gN m y0)))
set_option maxRecDepth 10000 in
theorem t_X12_joinsOne_134 (l : Launch) (E : En) (c0 s0 : Nat) (l0 : Nat) (l2 : Int32) (l3 : Int32) (y2 : Int32) (y1 : Int32) (y0 : Nat) (m : Mm) (o : Prop) : Mh wI l E mi_X12_joinsOne c0 s0 134 [(0, .ref l0), (2, .int l2), (3, .int l3)] [.int y2, .int y1, .ref y0] m o (f_X12_joinsOne_134 l0 l2 l3 y2 y1 y0 m o) := by
  refine Mh_ias dX12_joinsOne_134 ?_
  exact t_X12_joinsOne_135 l E c0 s0 _ _ _ _ _
def f_X12_joinsOne_99 (l0 : Nat) (l2 : Int32) (l3 : Int32) (m : Mm) (o : Prop) : Int32 × Mm × Prop := if (gI m (gR m l0 12) (ix l3)) ≤ (gI m (gR m l0 12) (ix l2)) then (f_X12_joinsOne_134 l0 l2 l3 (gI m (gR m l0 12) (ix l2)) l2 (gR m l0 12) m (((o ∧ (gT m l0 = 12 ∧ gR m l0 12 ≠ 0)) ∧ (gT m (gR m l0 12) = 20 ∧ vp_in l3 (gN m (gR m l0 12)))) ∧ (gT m (gR m l0 12) = 20 ∧ vp_in l2 (gN m (gR m l0 12))))) else (f_X12_joinsOne_134 l0 l2 l3 (gI m (gR m l0 12) (ix l3)) l2 (gR m l0 12) m (((o ∧ (gT m l0 = 12 ∧ gR m l0 12 ≠ 0)) ∧ (gT m (gR m l0 12) = 20 ∧ vp_in l3 (gN m (gR m l0 12)))) ∧ (gT m (gR m l0 12) = 20 ∧ vp_in l2 (gN m (gR m l0 12)))))
set_option maxRecDepth 10000 in
theorem t_X12_joinsOne_99 (l : Launch) (E : En) (c0 s0 : Nat) (l0 : Nat) (l2 : Int32) (l3 : Int32) (m : Mm) (o : Prop) : Mh wI l E mi_X12_joinsOne c0 s0 99 [(0, .ref l0), (2, .int l2), (3, .int l3)] [] m o (f_X12_joinsOne_99 l0 l2 l3 m o) := by
  refine Mh_aload_n 0 rfl dX12_joinsOne_99 ?_
  refine Mh_gR fd_11_12 fl_RX12_33 dX12_joinsOne_100 ?_
  refine Mh_iload_n 1 rfl dX12_joinsOne_103 ?_
  refine Mh_aload_n 0 rfl dX12_joinsOne_104 ?_
  refine Mh_gR fd_11_12 fl_RX12_33 dX12_joinsOne_105 ?_
  refine Mh_ok (fun h => h.2) ?_
  refine Mh_iload_n 2 rfl dX12_joinsOne_108 ?_
  refine Mh_ial dX12_joinsOne_109 ?_
  refine Mh_aload_n 0 rfl dX12_joinsOne_110 ?_
  refine Mh_gR fd_11_12 fl_RX12_33 dX12_joinsOne_111 ?_
  refine Mh_ok (fun h => h.1.2) ?_
  refine Mh_iload_n 1 rfl dX12_joinsOne_114 ?_
  refine Mh_ial dX12_joinsOne_115 ?_
  refine Mh_icmp_le (tgt := 128) dX12_joinsOne_116 (by decide) rfl (fun _ => ?_) (fun _ => ?_)
  · refine Mh_aload_n 0 rfl dX12_joinsOne_128 ?_
    refine Mh_gR fd_11_12 fl_RX12_33 dX12_joinsOne_129 ?_
    refine Mh_ok (fun h => h.1.1.2) ?_
    refine Mh_iload_n 1 rfl dX12_joinsOne_132 ?_
    refine Mh_ial dX12_joinsOne_133 ?_
    refine Mh_ok (fun h => h.2) ?_
    exact t_X12_joinsOne_134 l E c0 s0 _ _ _ _ _ _ _ _
  · refine Mh_aload_n 0 rfl dX12_joinsOne_119 ?_
    refine Mh_gR fd_11_12 fl_RX12_33 dX12_joinsOne_120 ?_
    refine Mh_ok (fun h => h.1.1.2) ?_
    refine Mh_iload_n 2 rfl dX12_joinsOne_123 ?_
    refine Mh_ial dX12_joinsOne_124 ?_
    refine Mh_ok (fun h => h.1.2) ?_
    refine Mh_goto (tgt := 134) dX12_joinsOne_125 (by decide) ?_
    exact t_X12_joinsOne_134 l E c0 s0 _ _ _ _ _ _ _ _
def f_X12_joinsOne_98 (l0 : Nat) (l2 : Int32) (l3 : Int32) (y2 : Int32) (y1 : Int32) (y0 : Nat) (m : Mm) (o : Prop) : Int32 × Mm × Prop := f_X12_joinsOne_99 l0 l2 l3 (sI m y0 (ix y1) y2) (o ∧ (gT m y0 = 20 ∧ vp_in y1 (gN m y0)))
set_option maxRecDepth 10000 in
theorem t_X12_joinsOne_98 (l : Launch) (E : En) (c0 s0 : Nat) (l0 : Nat) (l2 : Int32) (l3 : Int32) (y2 : Int32) (y1 : Int32) (y0 : Nat) (m : Mm) (o : Prop) : Mh wI l E mi_X12_joinsOne c0 s0 98 [(0, .ref l0), (2, .int l2), (3, .int l3)] [.int y2, .int y1, .ref y0] m o (f_X12_joinsOne_98 l0 l2 l3 y2 y1 y0 m o) := by
  refine Mh_ias dX12_joinsOne_98 ?_
  exact t_X12_joinsOne_99 l E c0 s0 _ _ _ _ _
def f_X12_joinsOne_57 (l0 : Nat) (l2 : Int32) (l3 : Int32) (m : Mm) (o : Prop) : Int32 × Mm × Prop := if ((gI m (gR m l0 11) (ix l2)) + (gI m (gR m l0 11) (ix l3))) ≤ (99 : Int32) then (f_X12_joinsOne_98 l0 l2 l3 ((gI m (gR m l0 11) (ix l2)) + (gI m (gR m l0 11) (ix l3))) l2 (gR m l0 11) m (((o ∧ (gT m l0 = 12 ∧ gR m l0 11 ≠ 0)) ∧ (gT m (gR m l0 11) = 20 ∧ vp_in l2 (gN m (gR m l0 11)))) ∧ (gT m (gR m l0 11) = 20 ∧ vp_in l3 (gN m (gR m l0 11))))) else (f_X12_joinsOne_98 l0 l2 l3 (99 : Int32) l2 (gR m l0 11) m (((o ∧ (gT m l0 = 12 ∧ gR m l0 11 ≠ 0)) ∧ (gT m (gR m l0 11) = 20 ∧ vp_in l2 (gN m (gR m l0 11)))) ∧ (gT m (gR m l0 11) = 20 ∧ vp_in l3 (gN m (gR m l0 11)))))
set_option maxRecDepth 10000 in
theorem t_X12_joinsOne_57 (l : Launch) (E : En) (c0 s0 : Nat) (l0 : Nat) (l2 : Int32) (l3 : Int32) (m : Mm) (o : Prop) : Mh wI l E mi_X12_joinsOne c0 s0 57 [(0, .ref l0), (2, .int l2), (3, .int l3)] [] m o (f_X12_joinsOne_57 l0 l2 l3 m o) := by
  refine Mh_aload_n 0 rfl dX12_joinsOne_57 ?_
  refine Mh_gR fd_11_11 fl_RX12_30 dX12_joinsOne_58 ?_
  refine Mh_iload_n 1 rfl dX12_joinsOne_61 ?_
  refine Mh_aload_n 0 rfl dX12_joinsOne_62 ?_
  refine Mh_gR fd_11_11 fl_RX12_30 dX12_joinsOne_63 ?_
  refine Mh_ok (fun h => h.2) ?_
  refine Mh_iload_n 1 rfl dX12_joinsOne_66 ?_
  refine Mh_ial dX12_joinsOne_67 ?_
  refine Mh_aload_n 0 rfl dX12_joinsOne_68 ?_
  refine Mh_gR fd_11_11 fl_RX12_30 dX12_joinsOne_69 ?_
  refine Mh_ok (fun h => h.1.2) ?_
  refine Mh_iload_n 2 rfl dX12_joinsOne_72 ?_
  refine Mh_ial dX12_joinsOne_73 ?_
  refine Mh_iadd dX12_joinsOne_74 ?_
  refine Mh_bipush (v := 99) dX12_joinsOne_75 (by decide) ?_
  refine Mh_icmp_le (tgt := 85) dX12_joinsOne_77 (by decide) rfl (fun _ => ?_) (fun _ => ?_)
  · refine Mh_aload_n 0 rfl dX12_joinsOne_85 ?_
    refine Mh_gR fd_11_11 fl_RX12_30 dX12_joinsOne_86 ?_
    refine Mh_ok (fun h => h.1.1.2) ?_
    refine Mh_iload_n 1 rfl dX12_joinsOne_89 ?_
    refine Mh_ial dX12_joinsOne_90 ?_
    refine Mh_ok (fun h => h.1.2) ?_
    refine Mh_aload_n 0 rfl dX12_joinsOne_91 ?_
    refine Mh_gR fd_11_11 fl_RX12_30 dX12_joinsOne_92 ?_
    refine Mh_ok (fun h => h.1.1.2) ?_
    refine Mh_iload_n 2 rfl dX12_joinsOne_95 ?_
    refine Mh_ial dX12_joinsOne_96 ?_
    refine Mh_ok (fun h => h.2) ?_
    refine Mh_iadd dX12_joinsOne_97 ?_
    exact t_X12_joinsOne_98 l E c0 s0 _ _ _ _ _ _ _ _
  · refine Mh_bipush (v := 99) dX12_joinsOne_80 (by decide) ?_
    refine Mh_goto (tgt := 98) dX12_joinsOne_82 (by decide) ?_
    exact t_X12_joinsOne_98 l E c0 s0 _ _ _ _ _ _ _ _
def f_X12_joinsOne_50 (l0 : Nat) (l2 : Int32) (l3 : Int32) (m : Mm) (o : Prop) : Int32 × Mm × Prop := f_X12_joinsOne_57 l0 l2 l3 (sI m (gR m l0 10) (ix l3) (0 : Int32)) ((o ∧ (gT m l0 = 12 ∧ gR m l0 10 ≠ 0)) ∧ (gT m (gR m l0 10) = 20 ∧ vp_in l3 (gN m (gR m l0 10))))
set_option maxRecDepth 10000 in
theorem t_X12_joinsOne_50 (l : Launch) (E : En) (c0 s0 : Nat) (l0 : Nat) (l2 : Int32) (l3 : Int32) (m : Mm) (o : Prop) : Mh wI l E mi_X12_joinsOne c0 s0 50 [(0, .ref l0), (2, .int l2), (3, .int l3)] [] m o (f_X12_joinsOne_50 l0 l2 l3 m o) := by
  refine Mh_aload_n 0 rfl dX12_joinsOne_50 ?_
  refine Mh_gR fd_11_10 fl_RX12_27 dX12_joinsOne_51 ?_
  refine Mh_iload_n 2 rfl dX12_joinsOne_54 ?_
  refine Mh_iconst (v := 0) dX12_joinsOne_55 (by decide) ?_
  refine Mh_ias dX12_joinsOne_56 ?_
  exact t_X12_joinsOne_57 l E c0 s0 _ _ _ _ _
def f_X12_joinsOne_29 (k2 : Nat → Int32 → Int32 → Mm → Prop → Int32 × Mm × Prop) (k14 : Nat → Int32 → Int32 → Int32 → Mm → Prop → Int32 × Mm × Prop) (l0 : Nat) (l1 : Int32) (l2 : Int32) (l3 : Int32) (y0 : Int32) (m : Mm) (o : Prop) : Int32 × Mm × Prop := if y0 = 0 then (k14 l0 l1 l2 (l3 + 1) m o) else (f_X12_joinsOne_50 l0 l2 l3 (sI m (gR m l0 10) (ix l2) ((gI m (gR m l0 10) (ix l2)) + (gI m (gR m l0 10) (ix l3)))) (((o ∧ (gT m l0 = 12 ∧ gR m l0 10 ≠ 0)) ∧ (gT m (gR m l0 10) = 20 ∧ vp_in l2 (gN m (gR m l0 10)))) ∧ (gT m (gR m l0 10) = 20 ∧ vp_in l3 (gN m (gR m l0 10)))))
set_option maxRecDepth 10000 in
theorem t_X12_joinsOne_29 (l : Launch) (E : En) (c0 s0 : Nat) (k2 : Nat → Int32 → Int32 → Mm → Prop → Int32 × Mm × Prop) (hk2 : ∀ (l0 : Nat) (l1 : Int32) (l2 : Int32) (m : Mm) (o : Prop), Mh wI l E mi_X12_joinsOne c0 s0 2 [(0, .ref l0), (1, .int l1), (2, .int l2)] [] m o (k2 l0 l1 l2 m o)) (k14 : Nat → Int32 → Int32 → Int32 → Mm → Prop → Int32 × Mm × Prop) (hk14 : ∀ (l0 : Nat) (l1 : Int32) (l2 : Int32) (l3 : Int32) (m : Mm) (o : Prop), Mh wI l E mi_X12_joinsOne c0 s0 14 [(0, .ref l0), (1, .int l1), (2, .int l2), (3, .int l3)] [] m o (k14 l0 l1 l2 l3 m o)) (l0 : Nat) (l1 : Int32) (l2 : Int32) (l3 : Int32) (y0 : Int32) (m : Mm) (o : Prop) : Mh wI l E mi_X12_joinsOne c0 s0 29 [(0, .ref l0), (1, .int l1), (2, .int l2), (3, .int l3)] [.int y0] m o (f_X12_joinsOne_29 k2 k14 l0 l1 l2 l3 y0 m o) := by
  refine Mh_if_ne (tgt := 35) dX12_joinsOne_29 (by decide) rfl (fun _ => ?_) (fun _ => ?_)
  · refine Mh_aload_n 0 rfl dX12_joinsOne_35 ?_
    refine Mh_gR fd_11_10 fl_RX12_27 dX12_joinsOne_36 ?_
    refine Mh_iload_n 2 rfl dX12_joinsOne_39 ?_
    refine Mh_dup2 dX12_joinsOne_40 rfl rfl ?_
    refine Mh_ial dX12_joinsOne_41 ?_
    refine Mh_aload_n 0 rfl dX12_joinsOne_42 ?_
    refine Mh_gR fd_11_10 fl_RX12_27 dX12_joinsOne_43 ?_
    refine Mh_ok (fun h => h.1.2) ?_
    refine Mh_iload_n 3 rfl dX12_joinsOne_46 ?_
    refine Mh_ial dX12_joinsOne_47 ?_
    refine Mh_iadd dX12_joinsOne_48 ?_
    refine Mh_ias dX12_joinsOne_49 ?_
    refine Mh_ok (fun h => h.1.2) ?_
    refine Mh_sub (lv' := [(0, .ref l0), (2, .int l2), (3, .int l3)]) [0, 2, 3] rfl ?_
    exact t_X12_joinsOne_50 l E c0 s0 _ _ _ _ _
  · refine Mh_goto (tgt := 180) dX12_joinsOne_32 (by decide) ?_
    refine Mh_iinc (v := l3 + 1) (lv' := [(3, .int (l3 + 1)), (0, .ref l0), (1, .int l1), (2, .int l2)]) 3 dX12_joinsOne_180 rfl rfl (Nat.le_of_ble_eq_true rfl) rfl ?_
    refine Mh_goto (tgt := 14) dX12_joinsOne_183 (by decide) ?_
    refine Mh_sub (lv' := [(0, .ref l0), (1, .int l1), (2, .int l2), (3, .int (l3 + 1))]) [1, 2, 3, 0] rfl ?_
    exact hk14 _ _ _ _ _ _
def f_X12_joinsOne_14b (k2 : Nat → Int32 → Int32 → Mm → Prop → Int32 × Mm × Prop) (k14 : Nat → Int32 → Int32 → Int32 → Mm → Prop → Int32 × Mm × Prop) (l0 : Nat) (l1 : Int32) (l2 : Int32) (l3 : Int32) (m : Mm) (o : Prop) : Int32 × Mm × Prop := if (gI m l0 2) ≤ l3 then (k2 l0 l1 (l2 + 1) m (o ∧ gT m l0 = 12)) else (bnd (F_X12_canJoin l0 l2 l3 l1 m (o ∧ gT m l0 = 12)) (fun v1 m1 o1 => f_X12_joinsOne_29 k2 k14 l0 l1 l2 l3 v1 m1 o1))
set_option maxRecDepth 10000 in
theorem t_X12_joinsOne_14b (l : Launch) (E : En) (c0 s0 : Nat) (k2 : Nat → Int32 → Int32 → Mm → Prop → Int32 × Mm × Prop) (hk2 : ∀ (l0 : Nat) (l1 : Int32) (l2 : Int32) (m : Mm) (o : Prop), Mh wI l E mi_X12_joinsOne c0 s0 2 [(0, .ref l0), (1, .int l1), (2, .int l2)] [] m o (k2 l0 l1 l2 m o)) (k14 : Nat → Int32 → Int32 → Int32 → Mm → Prop → Int32 × Mm × Prop) (hk14 : ∀ (l0 : Nat) (l1 : Int32) (l2 : Int32) (l3 : Int32) (m : Mm) (o : Prop), Mh wI l E mi_X12_joinsOne c0 s0 14 [(0, .ref l0), (1, .int l1), (2, .int l2), (3, .int l3)] [] m o (k14 l0 l1 l2 l3 m o)) (l0 : Nat) (l1 : Int32) (l2 : Int32) (l3 : Int32) (m : Mm) (o : Prop) : Mh wI l E mi_X12_joinsOne c0 s0 14 [(0, .ref l0), (1, .int l1), (2, .int l2), (3, .int l3)] [] m o (f_X12_joinsOne_14b k2 k14 l0 l1 l2 l3 m o) := by
  refine Mh_iload_n 3 rfl dX12_joinsOne_14 ?_
  refine Mh_aload_n 0 rfl dX12_joinsOne_15 ?_
  refine Mh_gI fd_11_2 fl_RX12_192 dX12_joinsOne_16 ?_
  refine Mh_icmp_ge (tgt := 186) dX12_joinsOne_19 (by decide) rfl (fun _ => ?_) (fun _ => ?_)
  · refine Mh_iinc (v := l2 + 1) (lv' := [(2, .int (l2 + 1)), (0, .ref l0), (1, .int l1), (3, .int l3)]) 2 dX12_joinsOne_186 rfl rfl (Nat.le_of_ble_eq_true rfl) rfl ?_
    refine Mh_goto (tgt := 2) dX12_joinsOne_189 (by decide) ?_
    refine Mh_sub (lv' := [(0, .ref l0), (1, .int l1), (2, .int (l2 + 1))]) [1, 2, 0] rfl ?_
    exact hk2 _ _ _ _ _
  · refine Mh_aload_n 0 rfl dX12_joinsOne_22 ?_
    refine Mh_iload_n 2 rfl dX12_joinsOne_23 ?_
    refine Mh_iload_n 3 rfl dX12_joinsOne_24 ?_
    refine Mh_iload_n 1 rfl dX12_joinsOne_25 ?_
    refine Mh_cvI (N := mi_X12_canJoin) (q := l0) (ci := 11) (as := [.int l2, .int l3, .int l1]) (st := []) (fun h => ⟨h, (fun h => h.2) h⟩) cg_yX12_canJoin (by decide) rfl rfl ml_RX12_482 iv_yX12_canJoin pd_yX12_canJoin rfl (by decide) (Nat.le_of_ble_eq_true rfl) rfl dX12_joinsOne_26 (T_X12_canJoin l E _ _ _ _ _ _) rfl ?_
    exact t_X12_joinsOne_29 l E c0 s0 k2 hk2 k14 hk14 _ _ _ _ _ _ _
def f_X12_joinsOne_14 (k2 : Nat → Int32 → Int32 → Mm → Prop → Int32 × Mm × Prop) : Nat → Nat → Int32 → Int32 → Int32 → Mm → Prop → Int32 × Mm × Prop
  | 0, _, _, _, _, m, _ => (0, m, False)
  | n + 1, l0, l1, l2, l3, m, o => f_X12_joinsOne_14b k2 (f_X12_joinsOne_14 k2 n) l0 l1 l2 l3 m o
theorem t_X12_joinsOne_14 (l : Launch) (E : En) (c0 s0 : Nat) (k2 : Nat → Int32 → Int32 → Mm → Prop → Int32 × Mm × Prop) (hk2 : ∀ (l0 : Nat) (l1 : Int32) (l2 : Int32) (m : Mm) (o : Prop), Mh wI l E mi_X12_joinsOne c0 s0 2 [(0, .ref l0), (1, .int l1), (2, .int l2)] [] m o (k2 l0 l1 l2 m o)) : ∀ (n : Nat) (l0 : Nat) (l1 : Int32) (l2 : Int32) (l3 : Int32) (m : Mm) (o : Prop), Mh wI l E mi_X12_joinsOne c0 s0 14 [(0, .ref l0), (1, .int l1), (2, .int l2), (3, .int l3)] [] m o (f_X12_joinsOne_14 k2 n l0 l1 l2 l3 m o)
  | 0, _, _, _, _, _, _ => Mh_out rfl
  | n + 1, l0, l1, l2, l3, m, o => t_X12_joinsOne_14b l E c0 s0 k2 hk2 (f_X12_joinsOne_14 k2 n) (t_X12_joinsOne_14 l E c0 s0 k2 hk2 n) l0 l1 l2 l3 m o
def f_X12_joinsOne_2b (k2 : Nat → Int32 → Int32 → Mm → Prop → Int32 × Mm × Prop) (l0 : Nat) (l1 : Int32) (l2 : Int32) (m : Mm) (o : Prop) : Int32 × Mm × Prop := if (gI m l0 2) ≤ l2 then ((0 : Int32), m, (o ∧ gT m l0 = 12)) else (f_X12_joinsOne_14 k2 1000 l0 l1 l2 (l2 + (1 : Int32)) m (o ∧ gT m l0 = 12))
set_option maxRecDepth 10000 in
theorem t_X12_joinsOne_2b (l : Launch) (E : En) (c0 s0 : Nat) (k2 : Nat → Int32 → Int32 → Mm → Prop → Int32 × Mm × Prop) (hk2 : ∀ (l0 : Nat) (l1 : Int32) (l2 : Int32) (m : Mm) (o : Prop), Mh wI l E mi_X12_joinsOne c0 s0 2 [(0, .ref l0), (1, .int l1), (2, .int l2)] [] m o (k2 l0 l1 l2 m o)) (l0 : Nat) (l1 : Int32) (l2 : Int32) (m : Mm) (o : Prop) : Mh wI l E mi_X12_joinsOne c0 s0 2 [(0, .ref l0), (1, .int l1), (2, .int l2)] [] m o (f_X12_joinsOne_2b k2 l0 l1 l2 m o) := by
  refine Mh_iload_n 2 rfl dX12_joinsOne_2 ?_
  refine Mh_aload_n 0 rfl dX12_joinsOne_3 ?_
  refine Mh_gI fd_11_2 fl_RX12_192 dX12_joinsOne_4 ?_
  refine Mh_icmp_ge (tgt := 192) dX12_joinsOne_7 (by decide) rfl (fun _ => ?_) (fun _ => ?_)
  · refine Mh_iconst (v := 0) dX12_joinsOne_192 (by decide) ?_
    exact Mh_ret dX12_joinsOne_193 rfl (fun _ => rk0Z) rfl
  · refine Mh_iload_n 2 rfl dX12_joinsOne_10 ?_
    refine Mh_iconst (v := 1) dX12_joinsOne_11 (by decide) ?_
    refine Mh_iadd dX12_joinsOne_12 ?_
    refine Mh_istore_n (lv' := [(3, .int (l2 + (1 : Int32))), (0, .ref l0), (1, .int l1), (2, .int l2)]) dX12_joinsOne_13 (Nat.le_of_ble_eq_true rfl) rfl ?_
    refine Mh_sub (lv' := [(0, .ref l0), (1, .int l1), (2, .int l2), (3, .int (l2 + (1 : Int32)))]) [1, 2, 3, 0] rfl ?_
    exact t_X12_joinsOne_14 l E c0 s0 k2 hk2 _ _ _ _ _ _ _
def f_X12_joinsOne_2 : Nat → Nat → Int32 → Int32 → Mm → Prop → Int32 × Mm × Prop
  | 0, _, _, _, m, _ => (0, m, False)
  | n + 1, l0, l1, l2, m, o => f_X12_joinsOne_2b (f_X12_joinsOne_2 n) l0 l1 l2 m o
theorem t_X12_joinsOne_2 (l : Launch) (E : En) (c0 s0 : Nat) : ∀ (n : Nat) (l0 : Nat) (l1 : Int32) (l2 : Int32) (m : Mm) (o : Prop), Mh wI l E mi_X12_joinsOne c0 s0 2 [(0, .ref l0), (1, .int l1), (2, .int l2)] [] m o (f_X12_joinsOne_2 n l0 l1 l2 m o)
  | 0, _, _, _, _, _ => Mh_out rfl
  | n + 1, l0, l1, l2, m, o => t_X12_joinsOne_2b l E c0 s0 (f_X12_joinsOne_2 n) (t_X12_joinsOne_2 l E c0 s0 n) l0 l1 l2 m o
def f_X12_joinsOne_0 (l0 : Nat) (l1 : Int32) (m : Mm) (o : Prop) : Int32 × Mm × Prop := f_X12_joinsOne_2 1000 l0 l1 (0 : Int32) m o
set_option maxRecDepth 10000 in
theorem t_X12_joinsOne_0 (l : Launch) (E : En) (c0 s0 : Nat) (l0 : Nat) (l1 : Int32) (m : Mm) (o : Prop) : Mh wI l E mi_X12_joinsOne c0 s0 0 [(0, .ref l0), (1, .int l1)] [] m o (f_X12_joinsOne_0 l0 l1 m o) := by
  refine Mh_iconst (v := 0) dX12_joinsOne_0 (by decide) ?_
  refine Mh_istore_n (lv' := [(2, .int (0 : Int32)), (0, .ref l0), (1, .int l1)]) dX12_joinsOne_1 (Nat.le_of_ble_eq_true rfl) rfl ?_
  refine Mh_sub (lv' := [(0, .ref l0), (1, .int l1), (2, .int (0 : Int32))]) [1, 2, 0] rfl ?_
  exact t_X12_joinsOne_2 l E c0 s0 _ _ _ _ _ _
def F_X12_joinsOne (a0 : Nat) (a1 : Int32) (m : Mm) (o : Prop) : Int32 × Mm × Prop := f_X12_joinsOne_0 a0 a1 m o
theorem T_X12_joinsOne (l : Launch) (E : En) (a0 : Nat) (a1 : Int32) (m : Mm) (o : Prop) : Mt wI l E yX12_joinsOne mi_X12_joinsOne [.ref a0, .int a1] m o (F_X12_joinsOne a0 a1 m o) :=
  Mt_I (by decide) rfl rfl rfl (Nat.le_of_ble_eq_true rfl) rfl (.inr (.inl rfl)) (t_X12_joinsOne_0 l E _ _ _ _ _ _)
def f_X12_storm_21 (k16 : Nat → Int32 → Int32 → Mm → Prop → Int32 × Mm × Prop) (l0 : Nat) (l1 : Int32) (l2 : Int32) (y0 : Int32) (m : Mm) (o : Prop) : Int32 × Mm × Prop := if y0 = 0 then (l2, m, o) else (k16 l0 l1 (l2 + 1) m o)
set_option maxRecDepth 10000 in
theorem t_X12_storm_21 (l : Launch) (E : En) (c0 s0 : Nat) (k16 : Nat → Int32 → Int32 → Mm → Prop → Int32 × Mm × Prop) (hk16 : ∀ (l0 : Nat) (l1 : Int32) (l2 : Int32) (m : Mm) (o : Prop), Mh wI l E mi_X12_storm c0 s0 16 [(0, .ref l0), (1, .int l1), (2, .int l2)] [] m o (k16 l0 l1 l2 m o)) (l0 : Nat) (l1 : Int32) (l2 : Int32) (y0 : Int32) (m : Mm) (o : Prop) : Mh wI l E mi_X12_storm c0 s0 21 [(0, .ref l0), (1, .int l1), (2, .int l2)] [.int y0] m o (f_X12_storm_21 k16 l0 l1 l2 y0 m o) := by
  refine Mh_if_eq (tgt := 30) dX12_storm_21 (by decide) rfl (fun _ => ?_) (fun _ => ?_)
  · refine Mh_iload_n 2 rfl dX12_storm_30 ?_
    exact Mh_ret dX12_storm_31 rfl (fun _ => rfl) rfl
  · refine Mh_iinc (v := l2 + 1) (lv' := [(2, .int (l2 + 1)), (0, .ref l0), (1, .int l1)]) 2 dX12_storm_24 rfl rfl (Nat.le_of_ble_eq_true rfl) rfl ?_
    refine Mh_goto (tgt := 16) dX12_storm_27 (by decide) ?_
    refine Mh_sub (lv' := [(0, .ref l0), (1, .int l1), (2, .int (l2 + 1))]) [1, 2, 0] rfl ?_
    exact hk16 _ _ _ _ _
def f_X12_storm_16b (k16 : Nat → Int32 → Int32 → Mm → Prop → Int32 × Mm × Prop) (l0 : Nat) (l1 : Int32) (l2 : Int32) (m : Mm) (o : Prop) : Int32 × Mm × Prop := bnd (F_X12_joinsOne l0 l1 m (o ∧ gT m l0 = 12)) (fun v1 m1 o1 => f_X12_storm_21 k16 l0 l1 l2 v1 m1 o1)
set_option maxRecDepth 10000 in
theorem t_X12_storm_16b (l : Launch) (E : En) (c0 s0 : Nat) (k16 : Nat → Int32 → Int32 → Mm → Prop → Int32 × Mm × Prop) (hk16 : ∀ (l0 : Nat) (l1 : Int32) (l2 : Int32) (m : Mm) (o : Prop), Mh wI l E mi_X12_storm c0 s0 16 [(0, .ref l0), (1, .int l1), (2, .int l2)] [] m o (k16 l0 l1 l2 m o)) (l0 : Nat) (l1 : Int32) (l2 : Int32) (m : Mm) (o : Prop) : Mh wI l E mi_X12_storm c0 s0 16 [(0, .ref l0), (1, .int l1), (2, .int l2)] [] m o (f_X12_storm_16b k16 l0 l1 l2 m o) := by
  refine Mh_aload_n 0 rfl dX12_storm_16 ?_
  refine Mh_iload_n 1 rfl dX12_storm_17 ?_
  refine Mh_cvI (N := mi_X12_joinsOne) (q := l0) (ci := 11) (as := [.int l1]) (st := []) (id) cg_yX12_joinsOne (by decide) rfl rfl ml_RX12_485 iv_yX12_joinsOne pd_yX12_joinsOne rfl (by decide) (Nat.le_of_ble_eq_true rfl) rfl dX12_storm_18 (T_X12_joinsOne l E _ _ _ _) rfl ?_
  exact t_X12_storm_21 l E c0 s0 k16 hk16 _ _ _ _ _ _
def f_X12_storm_16 : Nat → Nat → Int32 → Int32 → Mm → Prop → Int32 × Mm × Prop
  | 0, _, _, _, m, _ => (0, m, False)
  | n + 1, l0, l1, l2, m, o => f_X12_storm_16b (f_X12_storm_16 n) l0 l1 l2 m o
theorem t_X12_storm_16 (l : Launch) (E : En) (c0 s0 : Nat) : ∀ (n : Nat) (l0 : Nat) (l1 : Int32) (l2 : Int32) (m : Mm) (o : Prop), Mh wI l E mi_X12_storm c0 s0 16 [(0, .ref l0), (1, .int l1), (2, .int l2)] [] m o (f_X12_storm_16 n l0 l1 l2 m o)
  | 0, _, _, _, _, _ => Mh_out rfl
  | n + 1, l0, l1, l2, m, o => t_X12_storm_16b l E c0 s0 (f_X12_storm_16 n) (t_X12_storm_16 l E c0 s0 n) l0 l1 l2 m o
def f_X12_storm_9 (l0 : Nat) (l1 : Int32) (y0 : Int32) (m : Mm) (o : Prop) : Int32 × Mm × Prop := if y0 = 0 then ((-1 : Int32), m, o) else (f_X12_storm_16 1000 l0 l1 (0 : Int32) m o)
set_option maxRecDepth 10000 in
theorem t_X12_storm_9 (l : Launch) (E : En) (c0 s0 : Nat) (l0 : Nat) (l1 : Int32) (y0 : Int32) (m : Mm) (o : Prop) : Mh wI l E mi_X12_storm c0 s0 9 [(0, .ref l0), (1, .int l1)] [.int y0] m o (f_X12_storm_9 l0 l1 y0 m o) := by
  refine Mh_if_ne (tgt := 14) dX12_storm_9 (by decide) rfl (fun _ => ?_) (fun _ => ?_)
  · refine Mh_iconst (v := 0) dX12_storm_14 (by decide) ?_
    refine Mh_istore_n (lv' := [(2, .int (0 : Int32)), (0, .ref l0), (1, .int l1)]) dX12_storm_15 (Nat.le_of_ble_eq_true rfl) rfl ?_
    refine Mh_sub (lv' := [(0, .ref l0), (1, .int l1), (2, .int (0 : Int32))]) [1, 2, 0] rfl ?_
    exact t_X12_storm_16 l E c0 s0 _ _ _ _ _ _
  · refine Mh_iconst (v := (-1)) dX12_storm_12 (by decide) ?_
    exact Mh_ret dX12_storm_13 rfl (fun _ => rfl) rfl
def f_X12_storm_0 (l0 : Nat) (l1 : Int32) (m : Mm) (o : Prop) : Int32 × Mm × Prop := bnd (F_X12_lies (Int32.toInt64 l1) (1 : Int64) (9 : Int64) m o) (fun v1 m1 o1 => f_X12_storm_9 l0 l1 v1 m1 o1)
set_option maxRecDepth 10000 in
theorem t_X12_storm_0 (l : Launch) (E : En) (c0 s0 : Nat) (l0 : Nat) (l1 : Int32) (m : Mm) (o : Prop) : Mh wI l E mi_X12_storm c0 s0 0 [(0, .ref l0), (1, .int l1)] [] m o (f_X12_storm_0 l0 l1 m o) := by
  refine Mh_iload_n 1 rfl dX12_storm_0 ?_
  refine Mh_i2l dX12_storm_1 ?_
  refine Mh_lconst (v := 1) dX12_storm_2 (by decide) ?_
  refine Mh_ldc2 (v := 9) gl_RX12_186 dX12_storm_3 ?_
  refine Mh_csI (N := mi_X12_lies) (as := [.long (Int32.toInt64 l1), .long (1 : Int64), .long (9 : Int64)]) (st := []) cg_yX12_lies (.inl ml_RX12_188) sv_yX12_lies pd_yX12_lies rfl (by decide) (Nat.le_of_ble_eq_true rfl) rfl dX12_storm_6 (T_X12_lies l E _ _ _ _ _) rfl ?_
  exact t_X12_storm_9 l E c0 s0 _ _ _ _ _
def F_X12_storm (a0 : Nat) (a1 : Int32) (m : Mm) (o : Prop) : Int32 × Mm × Prop := f_X12_storm_0 a0 a1 m o
theorem T_X12_storm (l : Launch) (E : En) (a0 : Nat) (a1 : Int32) (m : Mm) (o : Prop) : Mt wI l E yX12_storm mi_X12_storm [.ref a0, .int a1] m o (F_X12_storm a0 a1 m o) :=
  Mt_I (by decide) rfl rfl rfl (Nat.le_of_ble_eq_true rfl) rfl (.inl rfl) (t_X12_storm_0 l E _ _ _ _ _ _)
