def f_X12_campaign_33 (m : Mm) (o : Prop) : Int32 × Mm × Prop := ((-3 : Int32), m, o)
set_option maxRecDepth 10000 in
theorem t_X12_campaign_33 (l : Launch) (E : En) (c0 s0 : Nat) (m : Mm) (o : Prop) : Mh wI l E mi_X12_campaign c0 s0 33 [] [] m o (f_X12_campaign_33  m o) := by
  refine Mh_bipush (v := (-3)) dX12_campaign_33 (by decide) ?_
  exact Mh_ret dX12_campaign_35 rfl (fun _ => rfl) rfl
def f_X12_campaign_106 (k44 : Nat → Int32 → Int32 → Int32 → Int32 → Mm → Prop → Int32 × Mm × Prop) (l0 : Nat) (l1 : Int32) (l2 : Int32) (l3 : Int32) (l4 : Int32) (m : Mm) (o : Prop) : Int32 × Mm × Prop := k44 l0 l1 l2 l3 (l4 + 1) m o
set_option maxRecDepth 10000 in
theorem t_X12_campaign_106 (l : Launch) (E : En) (c0 s0 : Nat) (k44 : Nat → Int32 → Int32 → Int32 → Int32 → Mm → Prop → Int32 × Mm × Prop) (hk44 : ∀ (l0 : Nat) (l1 : Int32) (l2 : Int32) (l3 : Int32) (l4 : Int32) (m : Mm) (o : Prop), Mh wI l E mi_X12_campaign c0 s0 44 [(0, .ref l0), (1, .int l1), (2, .int l2), (3, .int l3), (4, .int l4)] [] m o (k44 l0 l1 l2 l3 l4 m o)) (l0 : Nat) (l1 : Int32) (l2 : Int32) (l3 : Int32) (l4 : Int32) (m : Mm) (o : Prop) : Mh wI l E mi_X12_campaign c0 s0 106 [(0, .ref l0), (1, .int l1), (2, .int l2), (3, .int l3), (4, .int l4)] [] m o (f_X12_campaign_106 k44 l0 l1 l2 l3 l4 m o) := by
  refine Mh_iinc (v := l4 + 1) (lv' := [(4, .int (l4 + 1)), (0, .ref l0), (1, .int l1), (2, .int l2), (3, .int l3)]) 4 dX12_campaign_106 rfl rfl (Nat.le_of_ble_eq_true rfl) rfl ?_
  refine Mh_goto (tgt := 44) dX12_campaign_109 (by decide) ?_
  refine Mh_sub (lv' := [(0, .ref l0), (1, .int l1), (2, .int l2), (3, .int l3), (4, .int (l4 + 1))]) [1, 2, 3, 4, 0] rfl ?_
  exact hk44 _ _ _ _ _ _ _
def f_X12_campaign_96 (k44 : Nat → Int32 → Int32 → Int32 → Int32 → Mm → Prop → Int32 × Mm × Prop) (l0 : Nat) (l1 : Int32) (l2 : Int32) (l3 : Int32) (l4 : Int32) (m : Mm) (o : Prop) : Int32 × Mm × Prop := f_X12_campaign_106 k44 l0 l1 l2 l3 l4 (sI m l0 69 ((gI m l0 69) + (1 : Int32))) (o ∧ gT m l0 = 12)
set_option maxRecDepth 10000 in
theorem t_X12_campaign_96 (l : Launch) (E : En) (c0 s0 : Nat) (k44 : Nat → Int32 → Int32 → Int32 → Int32 → Mm → Prop → Int32 × Mm × Prop) (hk44 : ∀ (l0 : Nat) (l1 : Int32) (l2 : Int32) (l3 : Int32) (l4 : Int32) (m : Mm) (o : Prop), Mh wI l E mi_X12_campaign c0 s0 44 [(0, .ref l0), (1, .int l1), (2, .int l2), (3, .int l3), (4, .int l4)] [] m o (k44 l0 l1 l2 l3 l4 m o)) (l0 : Nat) (l1 : Int32) (l2 : Int32) (l3 : Int32) (l4 : Int32) (m : Mm) (o : Prop) : Mh wI l E mi_X12_campaign c0 s0 96 [(0, .ref l0), (1, .int l1), (2, .int l2), (3, .int l3), (4, .int l4)] [] m o (f_X12_campaign_96 k44 l0 l1 l2 l3 l4 m o) := by
  refine Mh_aload_n 0 rfl dX12_campaign_96 ?_
  refine Mh_dup dX12_campaign_97 rfl ?_
  refine Mh_gI fd_11_69 fl_RX12_425 dX12_campaign_98 ?_
  refine Mh_iconst (v := 1) dX12_campaign_101 (by decide) ?_
  refine Mh_iadd dX12_campaign_102 ?_
  refine Mh_pI fd_11_69 ft_11 rfl fl_RX12_425 rfl dX12_campaign_103 ?_
  refine Mh_ok (fun h => h.2) ?_
  exact t_X12_campaign_106 l E c0 s0 k44 hk44 _ _ _ _ _ _ _
def f_X12_campaign_209 (k137 : Nat → Int32 → Int32 → Int32 → Int32 → Int32 → Mm → Prop → Int32 × Mm × Prop) (l0 : Nat) (l1 : Int32) (l2 : Int32) (l3 : Int32) (l4 : Int32) (l5 : Int32) (m : Mm) (o : Prop) : Int32 × Mm × Prop := k137 l0 l1 l2 l3 l4 (l5 + 1) m o
set_option maxRecDepth 10000 in
theorem t_X12_campaign_209 (l : Launch) (E : En) (c0 s0 : Nat) (k137 : Nat → Int32 → Int32 → Int32 → Int32 → Int32 → Mm → Prop → Int32 × Mm × Prop) (hk137 : ∀ (l0 : Nat) (l1 : Int32) (l2 : Int32) (l3 : Int32) (l4 : Int32) (l5 : Int32) (m : Mm) (o : Prop), Mh wI l E mi_X12_campaign c0 s0 137 [(0, .ref l0), (1, .int l1), (2, .int l2), (3, .int l3), (4, .int l4), (5, .int l5)] [] m o (k137 l0 l1 l2 l3 l4 l5 m o)) (l0 : Nat) (l1 : Int32) (l2 : Int32) (l3 : Int32) (l4 : Int32) (l5 : Int32) (m : Mm) (o : Prop) : Mh wI l E mi_X12_campaign c0 s0 209 [(0, .ref l0), (1, .int l1), (2, .int l2), (3, .int l3), (4, .int l4), (5, .int l5)] [] m o (f_X12_campaign_209 k137 l0 l1 l2 l3 l4 l5 m o) := by
  refine Mh_iinc (v := l5 + 1) (lv' := [(5, .int (l5 + 1)), (0, .ref l0), (1, .int l1), (2, .int l2), (3, .int l3), (4, .int l4)]) 5 dX12_campaign_209 rfl rfl (Nat.le_of_ble_eq_true rfl) rfl ?_
  refine Mh_goto (tgt := 137) dX12_campaign_212 (by decide) ?_
  refine Mh_sub (lv' := [(0, .ref l0), (1, .int l1), (2, .int l2), (3, .int l3), (4, .int l4), (5, .int (l5 + 1))]) [1, 2, 3, 4, 5, 0] rfl ?_
  exact hk137 _ _ _ _ _ _ _ _
def f_X12_campaign_200 (k137 : Nat → Int32 → Int32 → Int32 → Int32 → Int32 → Mm → Prop → Int32 × Mm × Prop) (l0 : Nat) (l1 : Int32) (l2 : Int32) (l3 : Int32) (l4 : Int32) (l5 : Int32) (l6 : Int32) (m : Mm) (o : Prop) : Int32 × Mm × Prop := if l6 = 0 then (f_X12_campaign_209 k137 l0 l1 l2 l3 l4 l5 m o) else (f_X12_campaign_209 k137 l0 l1 l2 l3 l5 l5 m o)
set_option maxRecDepth 10000 in
theorem t_X12_campaign_200 (l : Launch) (E : En) (c0 s0 : Nat) (k137 : Nat → Int32 → Int32 → Int32 → Int32 → Int32 → Mm → Prop → Int32 × Mm × Prop) (hk137 : ∀ (l0 : Nat) (l1 : Int32) (l2 : Int32) (l3 : Int32) (l4 : Int32) (l5 : Int32) (m : Mm) (o : Prop), Mh wI l E mi_X12_campaign c0 s0 137 [(0, .ref l0), (1, .int l1), (2, .int l2), (3, .int l3), (4, .int l4), (5, .int l5)] [] m o (k137 l0 l1 l2 l3 l4 l5 m o)) (l0 : Nat) (l1 : Int32) (l2 : Int32) (l3 : Int32) (l4 : Int32) (l5 : Int32) (l6 : Int32) (m : Mm) (o : Prop) : Mh wI l E mi_X12_campaign c0 s0 200 [(0, .ref l0), (1, .int l1), (2, .int l2), (3, .int l3), (4, .int l4), (5, .int l5), (6, .int l6)] [] m o (f_X12_campaign_200 k137 l0 l1 l2 l3 l4 l5 l6 m o) := by
  refine Mh_iload 6 rfl dX12_campaign_200 ?_
  refine Mh_if_eq (tgt := 209) dX12_campaign_202 (by decide) rfl (fun _ => ?_) (fun _ => ?_)
  · refine Mh_sub (lv' := [(0, .ref l0), (1, .int l1), (2, .int l2), (3, .int l3), (4, .int l4), (5, .int l5)]) [0, 1, 2, 3, 4, 5] rfl ?_
    exact t_X12_campaign_209 l E c0 s0 k137 hk137 _ _ _ _ _ _ _ _
  · refine Mh_iload 5 rfl dX12_campaign_205 ?_
    refine Mh_istore (lv' := [(4, .int l5), (0, .ref l0), (1, .int l1), (2, .int l2), (3, .int l3), (5, .int l5), (6, .int l6)]) dX12_campaign_207 (Nat.le_of_ble_eq_true rfl) rfl ?_
    refine Mh_sub (lv' := [(0, .ref l0), (1, .int l1), (2, .int l2), (3, .int l3), (4, .int l5), (5, .int l5)]) [1, 2, 3, 4, 0, 5] rfl ?_
    exact t_X12_campaign_209 l E c0 s0 k137 hk137 _ _ _ _ _ _ _ _
def f_X12_campaign_193 (k137 : Nat → Int32 → Int32 → Int32 → Int32 → Int32 → Mm → Prop → Int32 × Mm × Prop) (l0 : Nat) (l1 : Int32) (l2 : Int32) (l3 : Int32) (l4 : Int32) (l5 : Int32) (y0 : Int32) (m : Mm) (o : Prop) : Int32 × Mm × Prop := bnd (F_X12_putsBack l0 (0 : Int32) m (o ∧ gT m l0 = 12)) (fun _ m1 o1 => f_X12_campaign_200 k137 l0 l1 l2 l3 l4 l5 y0 m1 o1)
set_option maxRecDepth 10000 in
theorem t_X12_campaign_193 (l : Launch) (E : En) (c0 s0 : Nat) (k137 : Nat → Int32 → Int32 → Int32 → Int32 → Int32 → Mm → Prop → Int32 × Mm × Prop) (hk137 : ∀ (l0 : Nat) (l1 : Int32) (l2 : Int32) (l3 : Int32) (l4 : Int32) (l5 : Int32) (m : Mm) (o : Prop), Mh wI l E mi_X12_campaign c0 s0 137 [(0, .ref l0), (1, .int l1), (2, .int l2), (3, .int l3), (4, .int l4), (5, .int l5)] [] m o (k137 l0 l1 l2 l3 l4 l5 m o)) (l0 : Nat) (l1 : Int32) (l2 : Int32) (l3 : Int32) (l4 : Int32) (l5 : Int32) (y0 : Int32) (m : Mm) (o : Prop) : Mh wI l E mi_X12_campaign c0 s0 193 [(0, .ref l0), (1, .int l1), (2, .int l2), (3, .int l3), (4, .int l4), (5, .int l5)] [.int y0] m o (f_X12_campaign_193 k137 l0 l1 l2 l3 l4 l5 y0 m o) := by
  refine Mh_istore (lv' := [(6, .int y0), (0, .ref l0), (1, .int l1), (2, .int l2), (3, .int l3), (4, .int l4), (5, .int l5)]) dX12_campaign_193 (Nat.le_of_ble_eq_true rfl) rfl ?_
  refine Mh_aload_n 1 rfl dX12_campaign_195 ?_
  refine Mh_iconst (v := 0) dX12_campaign_196 (by decide) ?_
  refine Mh_cvU (N := mi_X12_putsBack) (q := l0) (ci := 11) (as := [.int (0 : Int32)]) (st := []) (id) cg_yX12_putsBack (by decide) rfl rfl ml_RX12_420 iv_yX12_putsBack pd_yX12_putsBack rfl (by decide) (Nat.le_of_ble_eq_true rfl) rfl dX12_campaign_197 (T_X12_putsBack l E _ _ _ _) rfl ?_
  refine Mh_sub (lv' := [(0, .ref l0), (1, .int l1), (2, .int l2), (3, .int l3), (4, .int l4), (5, .int l5), (6, .int y0)]) [1, 2, 3, 4, 5, 6, 0] rfl ?_
  exact t_X12_campaign_200 l E c0 s0 k137 hk137 _ _ _ _ _ _ _ _ _
def f_X12_campaign_188 (k137 : Nat → Int32 → Int32 → Int32 → Int32 → Int32 → Mm → Prop → Int32 × Mm × Prop) (l0 : Nat) (l1 : Int32) (l2 : Int32) (l3 : Int32) (l4 : Int32) (l5 : Int32) (m : Mm) (o : Prop) : Int32 × Mm × Prop := bnd (F_X12_wins l0 l1 m (o ∧ gT m l0 = 12)) (fun v1 m1 o1 => f_X12_campaign_193 k137 l0 l1 l2 l3 l4 l5 v1 m1 o1)
set_option maxRecDepth 10000 in
theorem t_X12_campaign_188 (l : Launch) (E : En) (c0 s0 : Nat) (k137 : Nat → Int32 → Int32 → Int32 → Int32 → Int32 → Mm → Prop → Int32 × Mm × Prop) (hk137 : ∀ (l0 : Nat) (l1 : Int32) (l2 : Int32) (l3 : Int32) (l4 : Int32) (l5 : Int32) (m : Mm) (o : Prop), Mh wI l E mi_X12_campaign c0 s0 137 [(0, .ref l0), (1, .int l1), (2, .int l2), (3, .int l3), (4, .int l4), (5, .int l5)] [] m o (k137 l0 l1 l2 l3 l4 l5 m o)) (l0 : Nat) (l1 : Int32) (l2 : Int32) (l3 : Int32) (l4 : Int32) (l5 : Int32) (m : Mm) (o : Prop) : Mh wI l E mi_X12_campaign c0 s0 188 [(0, .ref l0), (1, .int l1), (2, .int l2), (3, .int l3), (4, .int l4), (5, .int l5)] [] m o (f_X12_campaign_188 k137 l0 l1 l2 l3 l4 l5 m o) := by
  refine Mh_aload_n 0 rfl dX12_campaign_188 ?_
  refine Mh_iload_n 1 rfl dX12_campaign_189 ?_
  refine Mh_cvI (N := mi_X12_wins) (q := l0) (ci := 11) (as := [.int l1]) (st := []) (id) cg_yX12_wins (by decide) rfl rfl ml_RX12_404 iv_yX12_wins pd_yX12_wins rfl (by decide) (Nat.le_of_ble_eq_true rfl) rfl dX12_campaign_190 (T_X12_wins l E _ _ _ _) rfl ?_
  exact t_X12_campaign_193 l E c0 s0 k137 hk137 _ _ _ _ _ _ _ _ _
def f_X12_campaign_183 (k137 : Nat → Int32 → Int32 → Int32 → Int32 → Int32 → Mm → Prop → Int32 × Mm × Prop) (l0 : Nat) (l1 : Int32) (l2 : Int32) (l3 : Int32) (l4 : Int32) (l5 : Int32) (m : Mm) (o : Prop) : Int32 × Mm × Prop := bnd (F_X12_runs l0 l2 m (o ∧ gT m l0 = 12)) (fun _ m1 o1 => f_X12_campaign_188 k137 l0 l1 l2 l3 l4 l5 m1 o1)
set_option maxRecDepth 10000 in
theorem t_X12_campaign_183 (l : Launch) (E : En) (c0 s0 : Nat) (k137 : Nat → Int32 → Int32 → Int32 → Int32 → Int32 → Mm → Prop → Int32 × Mm × Prop) (hk137 : ∀ (l0 : Nat) (l1 : Int32) (l2 : Int32) (l3 : Int32) (l4 : Int32) (l5 : Int32) (m : Mm) (o : Prop), Mh wI l E mi_X12_campaign c0 s0 137 [(0, .ref l0), (1, .int l1), (2, .int l2), (3, .int l3), (4, .int l4), (5, .int l5)] [] m o (k137 l0 l1 l2 l3 l4 l5 m o)) (l0 : Nat) (l1 : Int32) (l2 : Int32) (l3 : Int32) (l4 : Int32) (l5 : Int32) (m : Mm) (o : Prop) : Mh wI l E mi_X12_campaign c0 s0 183 [(0, .ref l0), (1, .int l1), (2, .int l2), (3, .int l3), (4, .int l4), (5, .int l5)] [] m o (f_X12_campaign_183 k137 l0 l1 l2 l3 l4 l5 m o) := by
  refine Mh_aload_n 0 rfl dX12_campaign_183 ?_
  refine Mh_iload_n 2 rfl dX12_campaign_184 ?_
  refine Mh_cvU (N := mi_X12_runs) (q := l0) (ci := 11) (as := [.int l2]) (st := []) (id) cg_yX12_runs (by decide) rfl rfl ml_RX12_414 iv_yX12_runs pd_yX12_runs rfl (by decide) (Nat.le_of_ble_eq_true rfl) rfl dX12_campaign_185 (T_X12_runs l E _ _ _ _) rfl ?_
  exact t_X12_campaign_188 l E c0 s0 k137 hk137 _ _ _ _ _ _ _ _
def f_X12_campaign_177 (k137 : Nat → Int32 → Int32 → Int32 → Int32 → Int32 → Mm → Prop → Int32 × Mm × Prop) (l0 : Nat) (l1 : Int32) (l2 : Int32) (l3 : Int32) (l4 : Int32) (l5 : Int32) (m : Mm) (o : Prop) : Int32 × Mm × Prop := bnd (F_X12_spreads l0 l5 m (o ∧ gT m l0 = 12)) (fun _ m1 o1 => f_X12_campaign_183 k137 l0 l1 l2 l3 l4 l5 m1 o1)
set_option maxRecDepth 10000 in
theorem t_X12_campaign_177 (l : Launch) (E : En) (c0 s0 : Nat) (k137 : Nat → Int32 → Int32 → Int32 → Int32 → Int32 → Mm → Prop → Int32 × Mm × Prop) (hk137 : ∀ (l0 : Nat) (l1 : Int32) (l2 : Int32) (l3 : Int32) (l4 : Int32) (l5 : Int32) (m : Mm) (o : Prop), Mh wI l E mi_X12_campaign c0 s0 137 [(0, .ref l0), (1, .int l1), (2, .int l2), (3, .int l3), (4, .int l4), (5, .int l5)] [] m o (k137 l0 l1 l2 l3 l4 l5 m o)) (l0 : Nat) (l1 : Int32) (l2 : Int32) (l3 : Int32) (l4 : Int32) (l5 : Int32) (m : Mm) (o : Prop) : Mh wI l E mi_X12_campaign c0 s0 177 [(0, .ref l0), (1, .int l1), (2, .int l2), (3, .int l3), (4, .int l4), (5, .int l5)] [] m o (f_X12_campaign_177 k137 l0 l1 l2 l3 l4 l5 m o) := by
  refine Mh_aload_n 0 rfl dX12_campaign_177 ?_
  refine Mh_iload 5 rfl dX12_campaign_178 ?_
  refine Mh_cvU (N := mi_X12_spreads) (q := l0) (ci := 11) (as := [.int l5]) (st := []) (id) cg_yX12_spreads (by decide) rfl rfl ml_RX12_438 iv_yX12_spreads pd_yX12_spreads rfl (by decide) (Nat.le_of_ble_eq_true rfl) rfl dX12_campaign_180 (T_X12_spreads l E _ _ _ _) rfl ?_
  exact t_X12_campaign_183 l E c0 s0 k137 hk137 _ _ _ _ _ _ _ _
def f_X12_campaign_172 (k137 : Nat → Int32 → Int32 → Int32 → Int32 → Int32 → Mm → Prop → Int32 × Mm × Prop) (l0 : Nat) (l1 : Int32) (l2 : Int32) (l3 : Int32) (l4 : Int32) (l5 : Int32) (m : Mm) (o : Prop) : Int32 × Mm × Prop := bnd (F_X12_setsAside l0 (0 : Int32) m (o ∧ gT m l0 = 12)) (fun _ m1 o1 => f_X12_campaign_177 k137 l0 l1 l2 l3 l4 l5 m1 o1)
set_option maxRecDepth 10000 in
theorem t_X12_campaign_172 (l : Launch) (E : En) (c0 s0 : Nat) (k137 : Nat → Int32 → Int32 → Int32 → Int32 → Int32 → Mm → Prop → Int32 × Mm × Prop) (hk137 : ∀ (l0 : Nat) (l1 : Int32) (l2 : Int32) (l3 : Int32) (l4 : Int32) (l5 : Int32) (m : Mm) (o : Prop), Mh wI l E mi_X12_campaign c0 s0 137 [(0, .ref l0), (1, .int l1), (2, .int l2), (3, .int l3), (4, .int l4), (5, .int l5)] [] m o (k137 l0 l1 l2 l3 l4 l5 m o)) (l0 : Nat) (l1 : Int32) (l2 : Int32) (l3 : Int32) (l4 : Int32) (l5 : Int32) (m : Mm) (o : Prop) : Mh wI l E mi_X12_campaign c0 s0 172 [(0, .ref l0), (1, .int l1), (2, .int l2), (3, .int l3), (4, .int l4), (5, .int l5)] [] m o (f_X12_campaign_172 k137 l0 l1 l2 l3 l4 l5 m o) := by
  refine Mh_aload_n 0 rfl dX12_campaign_172 ?_
  refine Mh_iconst (v := 0) dX12_campaign_173 (by decide) ?_
  refine Mh_cvU (N := mi_X12_setsAside) (q := l0) (ci := 11) (as := [.int (0 : Int32)]) (st := []) (id) cg_yX12_setsAside (by decide) rfl rfl ml_RX12_411 iv_yX12_setsAside pd_yX12_setsAside rfl (by decide) (Nat.le_of_ble_eq_true rfl) rfl dX12_campaign_174 (T_X12_setsAside l E _ _ _ _) rfl ?_
  exact t_X12_campaign_177 l E c0 s0 k137 hk137 _ _ _ _ _ _ _ _
def f_X12_campaign_166 (k137 : Nat → Int32 → Int32 → Int32 → Int32 → Int32 → Mm → Prop → Int32 × Mm × Prop) (l0 : Nat) (l1 : Int32) (l2 : Int32) (l3 : Int32) (l4 : Int32) (l5 : Int32) (y1 : Int32) (y0 : Int32) (m : Mm) (o : Prop) : Int32 × Mm × Prop := if y0 < y1 then (f_X12_campaign_172 k137 l0 l1 l2 l3 l4 l5 m o) else (f_X12_campaign_209 k137 l0 l1 l2 l3 l4 l5 m o)
set_option maxRecDepth 10000 in
theorem t_X12_campaign_166 (l : Launch) (E : En) (c0 s0 : Nat) (k137 : Nat → Int32 → Int32 → Int32 → Int32 → Int32 → Mm → Prop → Int32 × Mm × Prop) (hk137 : ∀ (l0 : Nat) (l1 : Int32) (l2 : Int32) (l3 : Int32) (l4 : Int32) (l5 : Int32) (m : Mm) (o : Prop), Mh wI l E mi_X12_campaign c0 s0 137 [(0, .ref l0), (1, .int l1), (2, .int l2), (3, .int l3), (4, .int l4), (5, .int l5)] [] m o (k137 l0 l1 l2 l3 l4 l5 m o)) (l0 : Nat) (l1 : Int32) (l2 : Int32) (l3 : Int32) (l4 : Int32) (l5 : Int32) (y1 : Int32) (y0 : Int32) (m : Mm) (o : Prop) : Mh wI l E mi_X12_campaign c0 s0 166 [(0, .ref l0), (1, .int l1), (2, .int l2), (3, .int l3), (4, .int l4), (5, .int l5)] [.int y1, .int y0] m o (f_X12_campaign_166 k137 l0 l1 l2 l3 l4 l5 y1 y0 m o) := by
  refine Mh_icmp_lt (tgt := 172) dX12_campaign_166 (by decide) rfl (fun _ => ?_) (fun _ => ?_)
  · exact t_X12_campaign_172 l E c0 s0 k137 hk137 _ _ _ _ _ _ _ _
  · refine Mh_goto (tgt := 209) dX12_campaign_169 (by decide) ?_
    exact t_X12_campaign_209 l E c0 s0 k137 hk137 _ _ _ _ _ _ _ _
def f_X12_campaign_161 (k137 : Nat → Int32 → Int32 → Int32 → Int32 → Int32 → Mm → Prop → Int32 × Mm × Prop) (l0 : Nat) (l1 : Int32) (l2 : Int32) (l3 : Int32) (l4 : Int32) (l5 : Int32) (y0 : Int32) (m : Mm) (o : Prop) : Int32 × Mm × Prop := bnd (F_X12_pence l4 m o) (fun v1 m1 o1 => f_X12_campaign_166 k137 l0 l1 l2 l3 l4 l5 v1 y0 m1 o1)
set_option maxRecDepth 10000 in
theorem t_X12_campaign_161 (l : Launch) (E : En) (c0 s0 : Nat) (k137 : Nat → Int32 → Int32 → Int32 → Int32 → Int32 → Mm → Prop → Int32 × Mm × Prop) (hk137 : ∀ (l0 : Nat) (l1 : Int32) (l2 : Int32) (l3 : Int32) (l4 : Int32) (l5 : Int32) (m : Mm) (o : Prop), Mh wI l E mi_X12_campaign c0 s0 137 [(0, .ref l0), (1, .int l1), (2, .int l2), (3, .int l3), (4, .int l4), (5, .int l5)] [] m o (k137 l0 l1 l2 l3 l4 l5 m o)) (l0 : Nat) (l1 : Int32) (l2 : Int32) (l3 : Int32) (l4 : Int32) (l5 : Int32) (y0 : Int32) (m : Mm) (o : Prop) : Mh wI l E mi_X12_campaign c0 s0 161 [(0, .ref l0), (1, .int l1), (2, .int l2), (3, .int l3), (4, .int l4), (5, .int l5)] [.int y0] m o (f_X12_campaign_161 k137 l0 l1 l2 l3 l4 l5 y0 m o) := by
  refine Mh_iload 4 rfl dX12_campaign_161 ?_
  refine Mh_csI (N := mi_X12_pence) (as := [.int l4]) (st := [.int y0]) cg_yX12_pence (.inl ml_RX12_435) sv_yX12_pence pd_yX12_pence rfl (by decide) (Nat.le_of_ble_eq_true rfl) rfl dX12_campaign_163 (T_X12_pence l E _ _ _) rfl ?_
  exact t_X12_campaign_166 l E c0 s0 k137 hk137 _ _ _ _ _ _ _ _ _ _
def f_X12_campaign_263 (y0 : Int32) (m : Mm) (o : Prop) : Int32 × Mm × Prop := (y0, m, o)
set_option maxRecDepth 10000 in
theorem t_X12_campaign_263 (l : Launch) (E : En) (c0 s0 : Nat) (y0 : Int32) (m : Mm) (o : Prop) : Mh wI l E mi_X12_campaign c0 s0 263 [] [.int y0] m o (f_X12_campaign_263 y0 m o) := by
  exact Mh_ret dX12_campaign_263 rfl (fun _ => rfl) rfl
def f_X12_campaign_250 (y0 : Int32) (m : Mm) (o : Prop) : Int32 × Mm × Prop := f_X12_campaign_263 y0 m o
set_option maxRecDepth 10000 in
theorem t_X12_campaign_250 (l : Launch) (E : En) (c0 s0 : Nat) (y0 : Int32) (m : Mm) (o : Prop) : Mh wI l E mi_X12_campaign c0 s0 250 [] [.int y0] m o (f_X12_campaign_250 y0 m o) := by
  refine Mh_goto (tgt := 263) dX12_campaign_250 (by decide) ?_
  exact t_X12_campaign_263 l E c0 s0 _ _ _
def f_X12_campaign_245 (l4 : Int32) (m : Mm) (o : Prop) : Int32 × Mm × Prop := bnd (F_X12_pence l4 m o) (fun v1 m1 o1 => f_X12_campaign_250 v1 m1 o1)
set_option maxRecDepth 10000 in
theorem t_X12_campaign_245 (l : Launch) (E : En) (c0 s0 : Nat) (l4 : Int32) (m : Mm) (o : Prop) : Mh wI l E mi_X12_campaign c0 s0 245 [(4, .int l4)] [] m o (f_X12_campaign_245 l4 m o) := by
  refine Mh_iload 0 rfl dX12_campaign_245 ?_
  refine Mh_csI (N := mi_X12_pence) (as := [.int l4]) (st := []) cg_yX12_pence (.inl ml_RX12_435) sv_yX12_pence pd_yX12_pence rfl (by decide) (Nat.le_of_ble_eq_true rfl) rfl dX12_campaign_247 (T_X12_pence l E _ _ _) rfl ?_
  refine Mh_sub (lv' := []) [] rfl ?_
  exact t_X12_campaign_250 l E c0 s0 _ _ _
def f_X12_campaign_235 (l0 : Nat) (l3 : Int32) (l4 : Int32) (m : Mm) (o : Prop) : Int32 × Mm × Prop := if l3 = (-1 : Int32) then (f_X12_campaign_245 l4 m o) else (if l3 = (4 : Int32) then (f_X12_campaign_245 l4 m o) else (bnd (F_X12_digit l4 (gI m l0 69) l3 m (o ∧ gT m l0 = 12)) (fun v1 m1 o1 => f_X12_campaign_263 v1 m1 o1)))
set_option maxRecDepth 10000 in
theorem t_X12_campaign_235 (l : Launch) (E : En) (c0 s0 : Nat) (l0 : Nat) (l3 : Int32) (l4 : Int32) (m : Mm) (o : Prop) : Mh wI l E mi_X12_campaign c0 s0 235 [(0, .ref l0), (3, .int l3), (4, .int l4)] [] m o (f_X12_campaign_235 l0 l3 l4 m o) := by
  refine Mh_iload_n 1 rfl dX12_campaign_235 ?_
  refine Mh_iconst (v := (-1)) dX12_campaign_236 (by decide) ?_
  refine Mh_icmp_eq (tgt := 245) dX12_campaign_237 (by decide) rfl (fun _ => ?_) (fun _ => ?_)
  · refine Mh_sub (lv' := [(4, .int l4)]) [2] rfl ?_
    exact t_X12_campaign_245 l E c0 s0 _ _ _
  · refine Mh_iload_n 1 rfl dX12_campaign_240 ?_
    refine Mh_iconst (v := 4) dX12_campaign_241 (by decide) ?_
    refine Mh_icmp_ne (tgt := 253) dX12_campaign_242 (by decide) rfl (fun _ => ?_) (fun _ => ?_)
    · refine Mh_iload 2 rfl dX12_campaign_253 ?_
      refine Mh_aload_n 0 rfl dX12_campaign_255 ?_
      refine Mh_gI fd_11_69 fl_RX12_425 dX12_campaign_256 ?_
      refine Mh_iload_n 1 rfl dX12_campaign_259 ?_
      refine Mh_csI (N := mi_X12_digit) (as := [.int l4, .int (gI m l0 69), .int l3]) (st := []) cg_yX12_digit (.inl ml_RX12_428) sv_yX12_digit pd_yX12_digit rfl (by decide) (Nat.le_of_ble_eq_true rfl) rfl dX12_campaign_260 (T_X12_digit l E _ _ _ _ _) rfl ?_
      refine Mh_sub (lv' := []) [] rfl ?_
      exact t_X12_campaign_263 l E c0 s0 _ _ _
    · refine Mh_sub (lv' := [(4, .int l4)]) [2] rfl ?_
      exact t_X12_campaign_245 l E c0 s0 _ _ _
def f_X12_campaign_137b (k137 : Nat → Int32 → Int32 → Int32 → Int32 → Int32 → Mm → Prop → Int32 × Mm × Prop) (l0 : Nat) (l1 : Int32) (l2 : Int32) (l3 : Int32) (l4 : Int32) (l5 : Int32) (m : Mm) (o : Prop) : Int32 × Mm × Prop := if ((1 : Int32) <<< (((2 : Int32) * (gI m l0 69)) &&& 31)) ≤ l5 then (if l4 = (-1 : Int32) then ((-2 : Int32), m, (o ∧ gT m l0 = 12)) else (if l3 = (4 : Int32) then (bnd (F_X12_spreads l0 l4 m (o ∧ gT m l0 = 12)) (fun _ m1 o1 => f_X12_campaign_235 l0 l3 l4 m1 o1)) else (f_X12_campaign_235 l0 l3 l4 m (o ∧ gT m l0 = 12)))) else (if l4 = (-1 : Int32) then (f_X12_campaign_172 k137 l0 l1 l2 l3 l4 l5 m (o ∧ gT m l0 = 12)) else (bnd (F_X12_pence l5 m (o ∧ gT m l0 = 12)) (fun v1 m1 o1 => f_X12_campaign_161 k137 l0 l1 l2 l3 l4 l5 v1 m1 o1)))
set_option maxRecDepth 10000 in
theorem t_X12_campaign_137b (l : Launch) (E : En) (c0 s0 : Nat) (k137 : Nat → Int32 → Int32 → Int32 → Int32 → Int32 → Mm → Prop → Int32 × Mm × Prop) (hk137 : ∀ (l0 : Nat) (l1 : Int32) (l2 : Int32) (l3 : Int32) (l4 : Int32) (l5 : Int32) (m : Mm) (o : Prop), Mh wI l E mi_X12_campaign c0 s0 137 [(0, .ref l0), (1, .int l1), (2, .int l2), (3, .int l3), (4, .int l4), (5, .int l5)] [] m o (k137 l0 l1 l2 l3 l4 l5 m o)) (l0 : Nat) (l1 : Int32) (l2 : Int32) (l3 : Int32) (l4 : Int32) (l5 : Int32) (m : Mm) (o : Prop) : Mh wI l E mi_X12_campaign c0 s0 137 [(0, .ref l0), (1, .int l1), (2, .int l2), (3, .int l3), (4, .int l4), (5, .int l5)] [] m o (f_X12_campaign_137b k137 l0 l1 l2 l3 l4 l5 m o) := by
  refine Mh_iload 5 rfl dX12_campaign_137 ?_
  refine Mh_iconst (v := 1) dX12_campaign_139 (by decide) ?_
  refine Mh_iconst (v := 2) dX12_campaign_140 (by decide) ?_
  refine Mh_aload_n 0 rfl dX12_campaign_141 ?_
  refine Mh_gI fd_11_69 fl_RX12_425 dX12_campaign_142 ?_
  refine Mh_imul dX12_campaign_145 ?_
  refine Mh_ishl dX12_campaign_146 ?_
  refine Mh_icmp_ge (tgt := 215) dX12_campaign_147 (by decide) rfl (fun _ => ?_) (fun _ => ?_)
  · refine Mh_iload 4 rfl dX12_campaign_215 ?_
    refine Mh_iconst (v := (-1)) dX12_campaign_217 (by decide) ?_
    refine Mh_icmp_ne (tgt := 224) dX12_campaign_218 (by decide) rfl (fun _ => ?_) (fun _ => ?_)
    · refine Mh_iload_n 3 rfl dX12_campaign_224 ?_
      refine Mh_iconst (v := 4) dX12_campaign_225 (by decide) ?_
      refine Mh_icmp_ne (tgt := 235) dX12_campaign_226 (by decide) rfl (fun _ => ?_) (fun _ => ?_)
      · refine Mh_sub (lv' := [(0, .ref l0), (3, .int l3), (4, .int l4)]) [0, 3, 4] rfl ?_
        exact t_X12_campaign_235 l E c0 s0 _ _ _ _ _
      · refine Mh_aload_n 0 rfl dX12_campaign_229 ?_
        refine Mh_iload 4 rfl dX12_campaign_230 ?_
        refine Mh_cvU (N := mi_X12_spreads) (q := l0) (ci := 11) (as := [.int l4]) (st := []) (fun h => ⟨h, (fun h => h.2) h⟩) cg_yX12_spreads (by decide) rfl rfl ml_RX12_438 iv_yX12_spreads pd_yX12_spreads rfl (by decide) (Nat.le_of_ble_eq_true rfl) rfl dX12_campaign_232 (T_X12_spreads l E _ _ _ _) rfl ?_
        refine Mh_sub (lv' := [(0, .ref l0), (3, .int l3), (4, .int l4)]) [0, 3, 4] rfl ?_
        exact t_X12_campaign_235 l E c0 s0 _ _ _ _ _
    · refine Mh_bipush (v := (-2)) dX12_campaign_221 (by decide) ?_
      exact Mh_ret dX12_campaign_223 rfl (fun _ => rfl) rfl
  · refine Mh_iload 4 rfl dX12_campaign_150 ?_
    refine Mh_iconst (v := (-1)) dX12_campaign_152 (by decide) ?_
    refine Mh_icmp_eq (tgt := 172) dX12_campaign_153 (by decide) rfl (fun _ => ?_) (fun _ => ?_)
    · exact t_X12_campaign_172 l E c0 s0 k137 hk137 _ _ _ _ _ _ _ _
    · refine Mh_iload 5 rfl dX12_campaign_156 ?_
      refine Mh_csI (N := mi_X12_pence) (as := [.int l5]) (st := []) cg_yX12_pence (.inl ml_RX12_435) sv_yX12_pence pd_yX12_pence rfl (by decide) (Nat.le_of_ble_eq_true rfl) rfl dX12_campaign_158 (T_X12_pence l E _ _ _) rfl ?_
      exact t_X12_campaign_161 l E c0 s0 k137 hk137 _ _ _ _ _ _ _ _ _
def f_X12_campaign_137 : Nat → Nat → Int32 → Int32 → Int32 → Int32 → Int32 → Mm → Prop → Int32 × Mm × Prop
  | 0, _, _, _, _, _, _, m, _ => (0, m, False)
  | n + 1, l0, l1, l2, l3, l4, l5, m, o => f_X12_campaign_137b (f_X12_campaign_137 n) l0 l1 l2 l3 l4 l5 m o
theorem t_X12_campaign_137 (l : Launch) (E : En) (c0 s0 : Nat) : ∀ (n : Nat) (l0 : Nat) (l1 : Int32) (l2 : Int32) (l3 : Int32) (l4 : Int32) (l5 : Int32) (m : Mm) (o : Prop), Mh wI l E mi_X12_campaign c0 s0 137 [(0, .ref l0), (1, .int l1), (2, .int l2), (3, .int l3), (4, .int l4), (5, .int l5)] [] m o (f_X12_campaign_137 n l0 l1 l2 l3 l4 l5 m o)
  | 0, _, _, _, _, _, _, _, _ => Mh_out rfl
  | n + 1, l0, l1, l2, l3, l4, l5, m, o => t_X12_campaign_137b l E c0 s0 (f_X12_campaign_137 n) (t_X12_campaign_137 l E c0 s0 n) l0 l1 l2 l3 l4 l5 m o
def f_X12_campaign_125 (l0 : Nat) (l1 : Int32) (l2 : Int32) (l3 : Int32) (y0 : Int32) (m : Mm) (o : Prop) : Int32 × Mm × Prop := if y0 = 0 then (f_X12_campaign_137 1000 l0 l1 l2 l3 (-1 : Int32) (0 : Int32) m o) else ((-3 : Int32), m, o)
set_option maxRecDepth 10000 in
theorem t_X12_campaign_125 (l : Launch) (E : En) (c0 s0 : Nat) (l0 : Nat) (l1 : Int32) (l2 : Int32) (l3 : Int32) (y0 : Int32) (m : Mm) (o : Prop) : Mh wI l E mi_X12_campaign c0 s0 125 [(0, .ref l0), (1, .int l1), (2, .int l2), (3, .int l3)] [.int y0] m o (f_X12_campaign_125 l0 l1 l2 l3 y0 m o) := by
  refine Mh_if_eq (tgt := 131) dX12_campaign_125 (by decide) rfl (fun _ => ?_) (fun _ => ?_)
  · refine Mh_iconst (v := (-1)) dX12_campaign_131 (by decide) ?_
    refine Mh_istore (lv' := [(4, .int (-1 : Int32)), (0, .ref l0), (1, .int l1), (2, .int l2), (3, .int l3)]) dX12_campaign_132 (Nat.le_of_ble_eq_true rfl) rfl ?_
    refine Mh_iconst (v := 0) dX12_campaign_134 (by decide) ?_
    refine Mh_istore (lv' := [(5, .int (0 : Int32)), (4, .int (-1 : Int32)), (0, .ref l0), (1, .int l1), (2, .int l2), (3, .int l3)]) dX12_campaign_135 (Nat.le_of_ble_eq_true rfl) rfl ?_
    refine Mh_sub (lv' := [(0, .ref l0), (1, .int l1), (2, .int l2), (3, .int l3), (4, .int (-1 : Int32)), (5, .int (0 : Int32))]) [2, 3, 4, 5, 1, 0] rfl ?_
    exact t_X12_campaign_137 l E c0 s0 _ _ _ _ _ _ _ _ _
  · refine Mh_bipush (v := (-3)) dX12_campaign_128 (by decide) ?_
    exact Mh_ret dX12_campaign_130 rfl (fun _ => rfl) rfl
def f_X12_campaign_112 (l0 : Nat) (l1 : Int32) (l2 : Int32) (l3 : Int32) (m : Mm) (o : Prop) : Int32 × Mm × Prop := bnd (F_X12_lies (Int32.toInt64 l3) (Int32.toInt64 (gI m l0 69)) (3 : Int64) m (o ∧ gT m l0 = 12)) (fun v1 m1 o1 => f_X12_campaign_125 l0 l1 l2 l3 v1 m1 o1)
set_option maxRecDepth 10000 in
theorem t_X12_campaign_112 (l : Launch) (E : En) (c0 s0 : Nat) (l0 : Nat) (l1 : Int32) (l2 : Int32) (l3 : Int32) (m : Mm) (o : Prop) : Mh wI l E mi_X12_campaign c0 s0 112 [(0, .ref l0), (1, .int l1), (2, .int l2), (3, .int l3)] [] m o (f_X12_campaign_112 l0 l1 l2 l3 m o) := by
  refine Mh_iload_n 3 rfl dX12_campaign_112 ?_
  refine Mh_i2l dX12_campaign_113 ?_
  refine Mh_aload_n 0 rfl dX12_campaign_114 ?_
  refine Mh_gI fd_11_69 fl_RX12_425 dX12_campaign_115 ?_
  refine Mh_i2l dX12_campaign_118 ?_
  refine Mh_ldc2 (v := 3) gl_RX12_433 dX12_campaign_119 ?_
  refine Mh_csI (N := mi_X12_lies) (as := [.long (Int32.toInt64 l3), .long (Int32.toInt64 (gI m l0 69)), .long (3 : Int64)]) (st := []) cg_yX12_lies (.inl ml_RX12_188) sv_yX12_lies pd_yX12_lies rfl (by decide) (Nat.le_of_ble_eq_true rfl) rfl dX12_campaign_122 (T_X12_lies l E _ _ _ _ _) rfl ?_
  exact t_X12_campaign_125 l E c0 s0 _ _ _ _ _ _ _
def f_X12_campaign_44b (k44 : Nat → Int32 → Int32 → Int32 → Int32 → Mm → Prop → Int32 × Mm × Prop) (l0 : Nat) (l1 : Int32) (l2 : Int32) (l3 : Int32) (l4 : Int32) (m : Mm) (o : Prop) : Int32 × Mm × Prop := if (gI m l0 2) ≤ l4 then (f_X12_campaign_112 l0 l1 l2 l3 m (o ∧ gT m l0 = 12)) else (if (4 : Int32) ≤ (gI m l0 69) then (f_X12_campaign_112 l0 l1 l2 l3 m (o ∧ gT m l0 = 12)) else (if (gI m (gR m l0 14) (ix l4)) = 0 then (f_X12_campaign_106 k44 l0 l1 l2 l3 l4 m (((o ∧ gT m l0 = 12) ∧ (gT m l0 = 12 ∧ gR m l0 14 ≠ 0)) ∧ (gT m (gR m l0 14) = 22 ∧ vp_in l4 (gN m (gR m l0 14))))) else (if (gI m (gR m l0 9) (ix l4)) = l1 then (f_X12_campaign_96 k44 l0 l1 l2 l3 l4 (sI m (gR m l0 68) (ix (gI m l0 69)) l4) (((((((o ∧ gT m l0 = 12) ∧ (gT m l0 = 12 ∧ gR m l0 14 ≠ 0)) ∧ (gT m (gR m l0 14) = 22 ∧ vp_in l4 (gN m (gR m l0 14)))) ∧ (gT m l0 = 12 ∧ gR m l0 9 ≠ 0)) ∧ (gT m (gR m l0 9) = 20 ∧ vp_in l4 (gN m (gR m l0 9)))) ∧ (gT m l0 = 12 ∧ gR m l0 68 ≠ 0)) ∧ (gT m (gR m l0 68) = 20 ∧ vp_in (gI m l0 69) (gN m (gR m l0 68))))) else (f_X12_campaign_106 k44 l0 l1 l2 l3 l4 m (((((o ∧ gT m l0 = 12) ∧ (gT m l0 = 12 ∧ gR m l0 14 ≠ 0)) ∧ (gT m (gR m l0 14) = 22 ∧ vp_in l4 (gN m (gR m l0 14)))) ∧ (gT m l0 = 12 ∧ gR m l0 9 ≠ 0)) ∧ (gT m (gR m l0 9) = 20 ∧ vp_in l4 (gN m (gR m l0 9))))))))
set_option maxRecDepth 10000 in
theorem t_X12_campaign_44b (l : Launch) (E : En) (c0 s0 : Nat) (k44 : Nat → Int32 → Int32 → Int32 → Int32 → Mm → Prop → Int32 × Mm × Prop) (hk44 : ∀ (l0 : Nat) (l1 : Int32) (l2 : Int32) (l3 : Int32) (l4 : Int32) (m : Mm) (o : Prop), Mh wI l E mi_X12_campaign c0 s0 44 [(0, .ref l0), (1, .int l1), (2, .int l2), (3, .int l3), (4, .int l4)] [] m o (k44 l0 l1 l2 l3 l4 m o)) (l0 : Nat) (l1 : Int32) (l2 : Int32) (l3 : Int32) (l4 : Int32) (m : Mm) (o : Prop) : Mh wI l E mi_X12_campaign c0 s0 44 [(0, .ref l0), (1, .int l1), (2, .int l2), (3, .int l3), (4, .int l4)] [] m o (f_X12_campaign_44b k44 l0 l1 l2 l3 l4 m o) := by
  refine Mh_iload 4 rfl dX12_campaign_44 ?_
  refine Mh_aload_n 0 rfl dX12_campaign_46 ?_
  refine Mh_gI fd_11_2 fl_RX12_192 dX12_campaign_47 ?_
  refine Mh_icmp_ge (tgt := 112) dX12_campaign_50 (by decide) rfl (fun _ => ?_) (fun _ => ?_)
  · refine Mh_sub (lv' := [(0, .ref l0), (1, .int l1), (2, .int l2), (3, .int l3)]) [0, 1, 2, 3] rfl ?_
    exact t_X12_campaign_112 l E c0 s0 _ _ _ _ _ _
  · refine Mh_aload_n 0 rfl dX12_campaign_53 ?_
    refine Mh_gI fd_11_69 fl_RX12_425 dX12_campaign_54 ?_
    refine Mh_ok (fun h => h.2) ?_
    refine Mh_iconst (v := 4) dX12_campaign_57 (by decide) ?_
    refine Mh_icmp_ge (tgt := 112) dX12_campaign_58 (by decide) rfl (fun _ => ?_) (fun _ => ?_)
    · refine Mh_sub (lv' := [(0, .ref l0), (1, .int l1), (2, .int l2), (3, .int l3)]) [0, 1, 2, 3] rfl ?_
      exact t_X12_campaign_112 l E c0 s0 _ _ _ _ _ _
    · refine Mh_aload_n 0 rfl dX12_campaign_61 ?_
      refine Mh_gR fd_11_14 fl_RX12_39 dX12_campaign_62 ?_
      refine Mh_iload 4 rfl dX12_campaign_65 ?_
      refine Mh_zal dX12_campaign_67 ?_
      refine Mh_if_eq (tgt := 106) dX12_campaign_68 (by decide) rfl (fun _ => ?_) (fun _ => ?_)
      · exact t_X12_campaign_106 l E c0 s0 k44 hk44 _ _ _ _ _ _ _
      · refine Mh_aload_n 0 rfl dX12_campaign_71 ?_
        refine Mh_gR fd_11_9 fl_RX12_24 dX12_campaign_72 ?_
        refine Mh_iload 4 rfl dX12_campaign_75 ?_
        refine Mh_ial dX12_campaign_77 ?_
        refine Mh_iload_n 1 rfl dX12_campaign_78 ?_
        refine Mh_icmp_eq (tgt := 85) dX12_campaign_79 (by decide) rfl (fun _ => ?_) (fun _ => ?_)
        · refine Mh_aload_n 0 rfl dX12_campaign_85 ?_
          refine Mh_gR fd_11_68 fl_RX12_160 dX12_campaign_86 ?_
          refine Mh_aload_n 0 rfl dX12_campaign_89 ?_
          refine Mh_gI fd_11_69 fl_RX12_425 dX12_campaign_90 ?_
          refine Mh_ok (fun h => h.1.1.1.1.1.2) ?_
          refine Mh_iload 4 rfl dX12_campaign_93 ?_
          refine Mh_ias dX12_campaign_95 ?_
          exact t_X12_campaign_96 l E c0 s0 k44 hk44 _ _ _ _ _ _ _
        · refine Mh_goto (tgt := 106) dX12_campaign_82 (by decide) ?_
          exact t_X12_campaign_106 l E c0 s0 k44 hk44 _ _ _ _ _ _ _
def f_X12_campaign_44 : Nat → Nat → Int32 → Int32 → Int32 → Int32 → Mm → Prop → Int32 × Mm × Prop
  | 0, _, _, _, _, _, m, _ => (0, m, False)
  | n + 1, l0, l1, l2, l3, l4, m, o => f_X12_campaign_44b (f_X12_campaign_44 n) l0 l1 l2 l3 l4 m o
theorem t_X12_campaign_44 (l : Launch) (E : En) (c0 s0 : Nat) : ∀ (n : Nat) (l0 : Nat) (l1 : Int32) (l2 : Int32) (l3 : Int32) (l4 : Int32) (m : Mm) (o : Prop), Mh wI l E mi_X12_campaign c0 s0 44 [(0, .ref l0), (1, .int l1), (2, .int l2), (3, .int l3), (4, .int l4)] [] m o (f_X12_campaign_44 n l0 l1 l2 l3 l4 m o)
  | 0, _, _, _, _, _, _, _ => Mh_out rfl
  | n + 1, l0, l1, l2, l3, l4, m, o => t_X12_campaign_44b l E c0 s0 (f_X12_campaign_44 n) (t_X12_campaign_44 l E c0 s0 n) l0 l1 l2 l3 l4 m o
def f_X12_campaign_41 (l0 : Nat) (l1 : Int32) (l2 : Int32) (l3 : Int32) (m : Mm) (o : Prop) : Int32 × Mm × Prop := f_X12_campaign_44 1000 l0 l1 l2 l3 (0 : Int32) m o
set_option maxRecDepth 10000 in
theorem t_X12_campaign_41 (l : Launch) (E : En) (c0 s0 : Nat) (l0 : Nat) (l1 : Int32) (l2 : Int32) (l3 : Int32) (m : Mm) (o : Prop) : Mh wI l E mi_X12_campaign c0 s0 41 [(0, .ref l0), (1, .int l1), (2, .int l2), (3, .int l3)] [] m o (f_X12_campaign_41 l0 l1 l2 l3 m o) := by
  refine Mh_iconst (v := 0) dX12_campaign_41 (by decide) ?_
  refine Mh_istore (lv' := [(4, .int (0 : Int32)), (0, .ref l0), (1, .int l1), (2, .int l2), (3, .int l3)]) dX12_campaign_42 (Nat.le_of_ble_eq_true rfl) rfl ?_
  refine Mh_sub (lv' := [(0, .ref l0), (1, .int l1), (2, .int l2), (3, .int l3), (4, .int (0 : Int32))]) [1, 2, 3, 4, 0] rfl ?_
  exact t_X12_campaign_44 l E c0 s0 _ _ _ _ _ _ _ _
def f_X12_campaign_30 (l0 : Nat) (l1 : Int32) (l2 : Int32) (l3 : Int32) (y0 : Int32) (m : Mm) (o : Prop) : Int32 × Mm × Prop := if y0 = 0 then (f_X12_campaign_33  m o) else (f_X12_campaign_41 l0 l1 l2 l3 (sI m l0 69 (0 : Int32)) (o ∧ gT m l0 = 12))
set_option maxRecDepth 10000 in
theorem t_X12_campaign_30 (l : Launch) (E : En) (c0 s0 : Nat) (l0 : Nat) (l1 : Int32) (l2 : Int32) (l3 : Int32) (y0 : Int32) (m : Mm) (o : Prop) : Mh wI l E mi_X12_campaign c0 s0 30 [(0, .ref l0), (1, .int l1), (2, .int l2), (3, .int l3)] [.int y0] m o (f_X12_campaign_30 l0 l1 l2 l3 y0 m o) := by
  refine Mh_if_ne (tgt := 36) dX12_campaign_30 (by decide) rfl (fun _ => ?_) (fun _ => ?_)
  · refine Mh_aload_n 0 rfl dX12_campaign_36 ?_
    refine Mh_iconst (v := 0) dX12_campaign_37 (by decide) ?_
    refine Mh_pI fd_11_69 ft_11 rfl fl_RX12_425 rfl dX12_campaign_38 ?_
    exact t_X12_campaign_41 l E c0 s0 _ _ _ _ _ _
  · refine Mh_sub (lv' := []) [] rfl ?_
    exact t_X12_campaign_33 l E c0 s0  _ _
def f_X12_campaign_16 (l0 : Nat) (l1 : Int32) (l2 : Int32) (l3 : Int32) (y0 : Int32) (m : Mm) (o : Prop) : Int32 × Mm × Prop := if y0 = 0 then (f_X12_campaign_33  m o) else (bnd (F_X12_lies (Int32.toInt64 l3) (-1 : Int64) (4 : Int64) m o) (fun v1 m1 o1 => f_X12_campaign_30 l0 l1 l2 l3 v1 m1 o1))
set_option maxRecDepth 10000 in
theorem t_X12_campaign_16 (l : Launch) (E : En) (c0 s0 : Nat) (l0 : Nat) (l1 : Int32) (l2 : Int32) (l3 : Int32) (y0 : Int32) (m : Mm) (o : Prop) : Mh wI l E mi_X12_campaign c0 s0 16 [(0, .ref l0), (1, .int l1), (2, .int l2), (3, .int l3)] [.int y0] m o (f_X12_campaign_16 l0 l1 l2 l3 y0 m o) := by
  refine Mh_if_eq (tgt := 33) dX12_campaign_16 (by decide) rfl (fun _ => ?_) (fun _ => ?_)
  · refine Mh_sub (lv' := []) [] rfl ?_
    exact t_X12_campaign_33 l E c0 s0  _ _
  · refine Mh_iload_n 3 rfl dX12_campaign_19 ?_
    refine Mh_i2l dX12_campaign_20 ?_
    refine Mh_ldc2 (v := (-1)) gl_RX12_431 dX12_campaign_21 ?_
    refine Mh_ldc2 (v := 4) gl_RX12_202 dX12_campaign_24 ?_
    refine Mh_csI (N := mi_X12_lies) (as := [.long (Int32.toInt64 l3), .long (-1 : Int64), .long (4 : Int64)]) (st := []) cg_yX12_lies (.inl ml_RX12_188) sv_yX12_lies pd_yX12_lies rfl (by decide) (Nat.le_of_ble_eq_true rfl) rfl dX12_campaign_27 (T_X12_lies l E _ _ _ _ _) rfl ?_
    exact t_X12_campaign_30 l E c0 s0 _ _ _ _ _ _ _
def f_X12_campaign_4 (l0 : Nat) (l1 : Int32) (l2 : Int32) (l3 : Int32) (y0 : Int32) (m : Mm) (o : Prop) : Int32 × Mm × Prop := if y0 = 0 then (f_X12_campaign_33  m o) else (bnd (F_X12_lies (Int32.toInt64 l2) (1 : Int64) (6 : Int64) m o) (fun v1 m1 o1 => f_X12_campaign_16 l0 l1 l2 l3 v1 m1 o1))
set_option maxRecDepth 10000 in
theorem t_X12_campaign_4 (l : Launch) (E : En) (c0 s0 : Nat) (l0 : Nat) (l1 : Int32) (l2 : Int32) (l3 : Int32) (y0 : Int32) (m : Mm) (o : Prop) : Mh wI l E mi_X12_campaign c0 s0 4 [(0, .ref l0), (1, .int l1), (2, .int l2), (3, .int l3)] [.int y0] m o (f_X12_campaign_4 l0 l1 l2 l3 y0 m o) := by
  refine Mh_if_eq (tgt := 33) dX12_campaign_4 (by decide) rfl (fun _ => ?_) (fun _ => ?_)
  · refine Mh_sub (lv' := []) [] rfl ?_
    exact t_X12_campaign_33 l E c0 s0  _ _
  · refine Mh_iload_n 2 rfl dX12_campaign_7 ?_
    refine Mh_i2l dX12_campaign_8 ?_
    refine Mh_lconst (v := 1) dX12_campaign_9 (by decide) ?_
    refine Mh_ldc2 (v := 6) gl_RX12_407 dX12_campaign_10 ?_
    refine Mh_csI (N := mi_X12_lies) (as := [.long (Int32.toInt64 l2), .long (1 : Int64), .long (6 : Int64)]) (st := []) cg_yX12_lies (.inl ml_RX12_188) sv_yX12_lies pd_yX12_lies rfl (by decide) (Nat.le_of_ble_eq_true rfl) rfl dX12_campaign_13 (T_X12_lies l E _ _ _ _ _) rfl ?_
    exact t_X12_campaign_16 l E c0 s0 _ _ _ _ _ _ _
def f_X12_campaign_0 (l0 : Nat) (l1 : Int32) (l2 : Int32) (l3 : Int32) (m : Mm) (o : Prop) : Int32 × Mm × Prop := bnd (F_X12_isColour l1 m o) (fun v1 m1 o1 => f_X12_campaign_4 l0 l1 l2 l3 v1 m1 o1)
set_option maxRecDepth 10000 in
theorem t_X12_campaign_0 (l : Launch) (E : En) (c0 s0 : Nat) (l0 : Nat) (l1 : Int32) (l2 : Int32) (l3 : Int32) (m : Mm) (o : Prop) : Mh wI l E mi_X12_campaign c0 s0 0 [(0, .ref l0), (1, .int l1), (2, .int l2), (3, .int l3)] [] m o (f_X12_campaign_0 l0 l1 l2 l3 m o) := by
  refine Mh_iload_n 1 rfl dX12_campaign_0 ?_
  refine Mh_csI (N := mi_X12_isColour) (as := [.int l1]) (st := []) cg_yX12_isColour (.inl ml_RX12_209) sv_yX12_isColour pd_yX12_isColour rfl (by decide) (Nat.le_of_ble_eq_true rfl) rfl dX12_campaign_1 (T_X12_isColour l E _ _ _) rfl ?_
  exact t_X12_campaign_4 l E c0 s0 _ _ _ _ _ _ _
def F_X12_campaign (a0 : Nat) (a1 : Int32) (a2 : Int32) (a3 : Int32) (m : Mm) (o : Prop) : Int32 × Mm × Prop := f_X12_campaign_0 a0 a1 a2 a3 m o
theorem T_X12_campaign (l : Launch) (E : En) (a0 : Nat) (a1 : Int32) (a2 : Int32) (a3 : Int32) (m : Mm) (o : Prop) : Mt wI l E yX12_campaign mi_X12_campaign [.ref a0, .int a1, .int a2, .int a3] m o (F_X12_campaign a0 a1 a2 a3 m o) :=
  Mt_I (by decide) rfl rfl rfl (Nat.le_of_ble_eq_true rfl) rfl (.inl rfl) (t_X12_campaign_0 l E _ _ _ _ _ _ _ _)
def f_X12_numberAt_4b (k4 : Nat → Int32 → Int32 → Int32 → Mm → Prop → Int32 × Mm × Prop) (l0 : Nat) (l1 : Int32) (l2 : Int32) (l3 : Int32) (m : Mm) (o : Prop) : Int32 × Mm × Prop := if (4 : Int32) ≤ l3 then (l2, m, o) else (k4 l0 l1 ((l2 <<< ((8 : Int32) &&& 31)) ||| ((gI m (gR m l0 0) (ix (((4 : Int32) * l1) + l3))) &&& (255 : Int32))) (l3 + 1) m ((o ∧ (gT m l0 = 12 ∧ gR m l0 0 ≠ 0)) ∧ (gT m (gR m l0 0) = 23 ∧ vp_in (((4 : Int32) * l1) + l3) (gN m (gR m l0 0)))))
set_option maxRecDepth 10000 in
theorem t_X12_numberAt_4b (l : Launch) (E : En) (c0 s0 : Nat) (k4 : Nat → Int32 → Int32 → Int32 → Mm → Prop → Int32 × Mm × Prop) (hk4 : ∀ (l0 : Nat) (l1 : Int32) (l2 : Int32) (l3 : Int32) (m : Mm) (o : Prop), Mh wI l E mi_X12_numberAt c0 s0 4 [(0, .ref l0), (1, .int l1), (2, .int l2), (3, .int l3)] [] m o (k4 l0 l1 l2 l3 m o)) (l0 : Nat) (l1 : Int32) (l2 : Int32) (l3 : Int32) (m : Mm) (o : Prop) : Mh wI l E mi_X12_numberAt c0 s0 4 [(0, .ref l0), (1, .int l1), (2, .int l2), (3, .int l3)] [] m o (f_X12_numberAt_4b k4 l0 l1 l2 l3 m o) := by
  refine Mh_iload_n 3 rfl dX12_numberAt_4 ?_
  refine Mh_iconst (v := 4) dX12_numberAt_5 (by decide) ?_
  refine Mh_icmp_ge (tgt := 35) dX12_numberAt_6 (by decide) rfl (fun _ => ?_) (fun _ => ?_)
  · refine Mh_iload_n 2 rfl dX12_numberAt_35 ?_
    exact Mh_ret dX12_numberAt_36 rfl (fun _ => rfl) rfl
  · refine Mh_iload_n 2 rfl dX12_numberAt_9 ?_
    refine Mh_bipush (v := 8) dX12_numberAt_10 (by decide) ?_
    refine Mh_ishl dX12_numberAt_12 ?_
    refine Mh_aload_n 0 rfl dX12_numberAt_13 ?_
    refine Mh_gR fd_11_0 fl_RX12_7 dX12_numberAt_14 ?_
    refine Mh_iconst (v := 4) dX12_numberAt_17 (by decide) ?_
    refine Mh_iload_n 1 rfl dX12_numberAt_18 ?_
    refine Mh_imul dX12_numberAt_19 ?_
    refine Mh_iload_n 3 rfl dX12_numberAt_20 ?_
    refine Mh_iadd dX12_numberAt_21 ?_
    refine Mh_bal dX12_numberAt_22 ?_
    refine Mh_sipush (v := 255) dX12_numberAt_23 (by decide) ?_
    refine Mh_iand dX12_numberAt_26 ?_
    refine Mh_ior dX12_numberAt_27 ?_
    refine Mh_istore_n (lv' := [(2, .int ((l2 <<< ((8 : Int32) &&& 31)) ||| ((gI m (gR m l0 0) (ix (((4 : Int32) * l1) + l3))) &&& (255 : Int32)))), (0, .ref l0), (1, .int l1), (3, .int l3)]) dX12_numberAt_28 (Nat.le_of_ble_eq_true rfl) rfl ?_
    refine Mh_iinc (v := l3 + 1) (lv' := [(3, .int (l3 + 1)), (2, .int ((l2 <<< ((8 : Int32) &&& 31)) ||| ((gI m (gR m l0 0) (ix (((4 : Int32) * l1) + l3))) &&& (255 : Int32)))), (0, .ref l0), (1, .int l1)]) 3 dX12_numberAt_29 rfl rfl (Nat.le_of_ble_eq_true rfl) rfl ?_
    refine Mh_goto (tgt := 4) dX12_numberAt_32 (by decide) ?_
    refine Mh_sub (lv' := [(0, .ref l0), (1, .int l1), (2, .int ((l2 <<< ((8 : Int32) &&& 31)) ||| ((gI m (gR m l0 0) (ix (((4 : Int32) * l1) + l3))) &&& (255 : Int32)))), (3, .int (l3 + 1))]) [2, 3, 1, 0] rfl ?_
    exact hk4 _ _ _ _ _ _
def f_X12_numberAt_4 : Nat → Nat → Int32 → Int32 → Int32 → Mm → Prop → Int32 × Mm × Prop
  | 0, _, _, _, _, m, _ => (0, m, False)
  | n + 1, l0, l1, l2, l3, m, o => f_X12_numberAt_4b (f_X12_numberAt_4 n) l0 l1 l2 l3 m o
theorem t_X12_numberAt_4 (l : Launch) (E : En) (c0 s0 : Nat) : ∀ (n : Nat) (l0 : Nat) (l1 : Int32) (l2 : Int32) (l3 : Int32) (m : Mm) (o : Prop), Mh wI l E mi_X12_numberAt c0 s0 4 [(0, .ref l0), (1, .int l1), (2, .int l2), (3, .int l3)] [] m o (f_X12_numberAt_4 n l0 l1 l2 l3 m o)
  | 0, _, _, _, _, _, _ => Mh_out rfl
  | n + 1, l0, l1, l2, l3, m, o => t_X12_numberAt_4b l E c0 s0 (f_X12_numberAt_4 n) (t_X12_numberAt_4 l E c0 s0 n) l0 l1 l2 l3 m o
def f_X12_numberAt_0 (l0 : Nat) (l1 : Int32) (m : Mm) (o : Prop) : Int32 × Mm × Prop := f_X12_numberAt_4 1000 l0 l1 (0 : Int32) (0 : Int32) m o
set_option maxRecDepth 10000 in
theorem t_X12_numberAt_0 (l : Launch) (E : En) (c0 s0 : Nat) (l0 : Nat) (l1 : Int32) (m : Mm) (o : Prop) : Mh wI l E mi_X12_numberAt c0 s0 0 [(0, .ref l0), (1, .int l1)] [] m o (f_X12_numberAt_0 l0 l1 m o) := by
  refine Mh_iconst (v := 0) dX12_numberAt_0 (by decide) ?_
  refine Mh_istore_n (lv' := [(2, .int (0 : Int32)), (0, .ref l0), (1, .int l1)]) dX12_numberAt_1 (Nat.le_of_ble_eq_true rfl) rfl ?_
  refine Mh_iconst (v := 0) dX12_numberAt_2 (by decide) ?_
  refine Mh_istore_n (lv' := [(3, .int (0 : Int32)), (2, .int (0 : Int32)), (0, .ref l0), (1, .int l1)]) dX12_numberAt_3 (Nat.le_of_ble_eq_true rfl) rfl ?_
  refine Mh_sub (lv' := [(0, .ref l0), (1, .int l1), (2, .int (0 : Int32)), (3, .int (0 : Int32))]) [2, 3, 1, 0] rfl ?_
  exact t_X12_numberAt_4 l E c0 s0 _ _ _ _ _ _ _
def F_X12_numberAt (a0 : Nat) (a1 : Int32) (m : Mm) (o : Prop) : Int32 × Mm × Prop := f_X12_numberAt_0 a0 a1 m o
theorem T_X12_numberAt (l : Launch) (E : En) (a0 : Nat) (a1 : Int32) (m : Mm) (o : Prop) : Mt wI l E yX12_numberAt mi_X12_numberAt [.ref a0, .int a1] m o (F_X12_numberAt a0 a1 m o) :=
  Mt_I (by decide) rfl rfl rfl (Nat.le_of_ble_eq_true rfl) rfl (.inl rfl) (t_X12_numberAt_0 l E _ _ _ _ _ _)
def f_X12_check_30 (m : Mm) (o : Prop) : Int32 × Mm × Prop := ((-2 : Int32), m, o)
set_option maxRecDepth 10000 in
theorem t_X12_check_30 (l : Launch) (E : En) (c0 s0 : Nat) (m : Mm) (o : Prop) : Mh wI l E mi_X12_check c0 s0 30 [] [] m o (f_X12_check_30  m o) := by
  refine Mh_bipush (v := (-2)) dX12_check_30 (by decide) ?_
  exact Mh_ret dX12_check_32 rfl (fun _ => rfl) rfl
def f_X12_check_72 (l3 : Int32) (m : Mm) (o : Prop) : Int32 × Mm × Prop := (l3, m, o)
set_option maxRecDepth 10000 in
theorem t_X12_check_72 (l : Launch) (E : En) (c0 s0 : Nat) (l3 : Int32) (m : Mm) (o : Prop) : Mh wI l E mi_X12_check c0 s0 72 [(3, .int l3)] [] m o (f_X12_check_72 l3 m o) := by
  refine Mh_iload_n 0 rfl dX12_check_72 ?_
  exact Mh_ret dX12_check_73 rfl (fun _ => rfl) rfl
def f_X12_check_58 (k40 : Nat → Int32 → Int32 → Int32 → Mm → Prop → Int32 × Mm × Prop) (l0 : Nat) (l1 : Int32) (l2 : Int32) (l3 : Int32) (y0 : Int32) (m : Mm) (o : Prop) : Int32 × Mm × Prop := if y0 = (gI m (gR m l0 21) (ix (((16 : Int32) * l1) + l3))) then (k40 l0 l1 l2 (l3 + 1) m ((o ∧ (gT m l0 = 12 ∧ gR m l0 21 ≠ 0)) ∧ (gT m (gR m l0 21) = 20 ∧ vp_in (((16 : Int32) * l1) + l3) (gN m (gR m l0 21))))) else (f_X12_check_72 l3 m ((o ∧ (gT m l0 = 12 ∧ gR m l0 21 ≠ 0)) ∧ (gT m (gR m l0 21) = 20 ∧ vp_in (((16 : Int32) * l1) + l3) (gN m (gR m l0 21)))))
set_option maxRecDepth 10000 in
theorem t_X12_check_58 (l : Launch) (E : En) (c0 s0 : Nat) (k40 : Nat → Int32 → Int32 → Int32 → Mm → Prop → Int32 × Mm × Prop) (hk40 : ∀ (l0 : Nat) (l1 : Int32) (l2 : Int32) (l3 : Int32) (m : Mm) (o : Prop), Mh wI l E mi_X12_check c0 s0 40 [(0, .ref l0), (1, .int l1), (2, .int l2), (3, .int l3)] [] m o (k40 l0 l1 l2 l3 m o)) (l0 : Nat) (l1 : Int32) (l2 : Int32) (l3 : Int32) (y0 : Int32) (m : Mm) (o : Prop) : Mh wI l E mi_X12_check c0 s0 58 [(0, .ref l0), (1, .int l1), (2, .int l2), (3, .int l3)] [.int y0] m o (f_X12_check_58 k40 l0 l1 l2 l3 y0 m o) := by
  refine Mh_aload_n 0 rfl dX12_check_58 ?_
  refine Mh_gR fd_11_21 fl_RX12_61 dX12_check_59 ?_
  refine Mh_bipush (v := 16) dX12_check_62 (by decide) ?_
  refine Mh_iload_n 1 rfl dX12_check_64 ?_
  refine Mh_imul dX12_check_65 ?_
  refine Mh_iload_n 3 rfl dX12_check_66 ?_
  refine Mh_iadd dX12_check_67 ?_
  refine Mh_ial dX12_check_68 ?_
  refine Mh_icmp_eq (tgt := 74) dX12_check_69 (by decide) rfl (fun _ => ?_) (fun _ => ?_)
  · refine Mh_iinc (v := l3 + 1) (lv' := [(3, .int (l3 + 1)), (0, .ref l0), (1, .int l1), (2, .int l2)]) 3 dX12_check_74 rfl rfl (Nat.le_of_ble_eq_true rfl) rfl ?_
    refine Mh_goto (tgt := 40) dX12_check_77 (by decide) ?_
    refine Mh_sub (lv' := [(0, .ref l0), (1, .int l1), (2, .int l2), (3, .int (l3 + 1))]) [1, 2, 3, 0] rfl ?_
    exact hk40 _ _ _ _ _ _
  · refine Mh_sub (lv' := [(3, .int l3)]) [3] rfl ?_
    exact t_X12_check_72 l E c0 s0 _ _ _
def f_X12_check_40b (k40 : Nat → Int32 → Int32 → Int32 → Mm → Prop → Int32 × Mm × Prop) (l0 : Nat) (l1 : Int32) (l2 : Int32) (l3 : Int32) (m : Mm) (o : Prop) : Int32 × Mm × Prop := if l2 ≤ l3 then ((-1 : Int32), m, o) else (if l3 = (gI m l0 3) then (f_X12_check_72 l3 m (o ∧ gT m l0 = 12)) else (bnd (F_X12_numberAt l0 l3 m (o ∧ gT m l0 = 12)) (fun v1 m1 o1 => f_X12_check_58 k40 l0 l1 l2 l3 v1 m1 o1)))
set_option maxRecDepth 10000 in
theorem t_X12_check_40b (l : Launch) (E : En) (c0 s0 : Nat) (k40 : Nat → Int32 → Int32 → Int32 → Mm → Prop → Int32 × Mm × Prop) (hk40 : ∀ (l0 : Nat) (l1 : Int32) (l2 : Int32) (l3 : Int32) (m : Mm) (o : Prop), Mh wI l E mi_X12_check c0 s0 40 [(0, .ref l0), (1, .int l1), (2, .int l2), (3, .int l3)] [] m o (k40 l0 l1 l2 l3 m o)) (l0 : Nat) (l1 : Int32) (l2 : Int32) (l3 : Int32) (m : Mm) (o : Prop) : Mh wI l E mi_X12_check c0 s0 40 [(0, .ref l0), (1, .int l1), (2, .int l2), (3, .int l3)] [] m o (f_X12_check_40b k40 l0 l1 l2 l3 m o) := by
  refine Mh_iload_n 3 rfl dX12_check_40 ?_
  refine Mh_iload_n 2 rfl dX12_check_41 ?_
  refine Mh_icmp_ge (tgt := 80) dX12_check_42 (by decide) rfl (fun _ => ?_) (fun _ => ?_)
  · refine Mh_iconst (v := (-1)) dX12_check_80 (by decide) ?_
    exact Mh_ret dX12_check_81 rfl (fun _ => rfl) rfl
  · refine Mh_iload_n 3 rfl dX12_check_45 ?_
    refine Mh_aload_n 0 rfl dX12_check_46 ?_
    refine Mh_gI fd_11_3 fl_RX12_199 dX12_check_47 ?_
    refine Mh_icmp_eq (tgt := 72) dX12_check_50 (by decide) rfl (fun _ => ?_) (fun _ => ?_)
    · refine Mh_sub (lv' := [(3, .int l3)]) [3] rfl ?_
      exact t_X12_check_72 l E c0 s0 _ _ _
    · refine Mh_aload_n 0 rfl dX12_check_53 ?_
      refine Mh_iload_n 3 rfl dX12_check_54 ?_
      refine Mh_cvI (N := mi_X12_numberAt) (q := l0) (ci := 11) (as := [.int l3]) (st := []) (fun h => ⟨h, (fun h => h.2) h⟩) cg_yX12_numberAt (by decide) rfl rfl ml_RX12_501 iv_yX12_numberAt pd_yX12_numberAt rfl (by decide) (Nat.le_of_ble_eq_true rfl) rfl dX12_check_55 (T_X12_numberAt l E _ _ _ _) rfl ?_
      exact t_X12_check_58 l E c0 s0 k40 hk40 _ _ _ _ _ _ _
def f_X12_check_40 : Nat → Nat → Int32 → Int32 → Int32 → Mm → Prop → Int32 × Mm × Prop
  | 0, _, _, _, _, m, _ => (0, m, False)
  | n + 1, l0, l1, l2, l3, m, o => f_X12_check_40b (f_X12_check_40 n) l0 l1 l2 l3 m o
theorem t_X12_check_40 (l : Launch) (E : En) (c0 s0 : Nat) : ∀ (n : Nat) (l0 : Nat) (l1 : Int32) (l2 : Int32) (l3 : Int32) (m : Mm) (o : Prop), Mh wI l E mi_X12_check c0 s0 40 [(0, .ref l0), (1, .int l1), (2, .int l2), (3, .int l3)] [] m o (f_X12_check_40 n l0 l1 l2 l3 m o)
  | 0, _, _, _, _, _, _ => Mh_out rfl
  | n + 1, l0, l1, l2, l3, m, o => t_X12_check_40b l E c0 s0 (f_X12_check_40 n) (t_X12_check_40 l E c0 s0 n) l0 l1 l2 l3 m o
def f_X12_check_38 (l0 : Nat) (l1 : Int32) (l2 : Int32) (m : Mm) (o : Prop) : Int32 × Mm × Prop := f_X12_check_40 1000 l0 l1 l2 (0 : Int32) m o
set_option maxRecDepth 10000 in
theorem t_X12_check_38 (l : Launch) (E : En) (c0 s0 : Nat) (l0 : Nat) (l1 : Int32) (l2 : Int32) (m : Mm) (o : Prop) : Mh wI l E mi_X12_check c0 s0 38 [(0, .ref l0), (1, .int l1), (2, .int l2)] [] m o (f_X12_check_38 l0 l1 l2 m o) := by
  refine Mh_iconst (v := 0) dX12_check_38 (by decide) ?_
  refine Mh_istore_n (lv' := [(3, .int (0 : Int32)), (0, .ref l0), (1, .int l1), (2, .int l2)]) dX12_check_39 (Nat.le_of_ble_eq_true rfl) rfl ?_
  refine Mh_sub (lv' := [(0, .ref l0), (1, .int l1), (2, .int l2), (3, .int (0 : Int32))]) [1, 2, 3, 0] rfl ?_
  exact t_X12_check_40 l E c0 s0 _ _ _ _ _ _ _
def f_X12_check_17 (l0 : Nat) (l1 : Int32) (l2 : Int32) (y0 : Int32) (m : Mm) (o : Prop) : Int32 × Mm × Prop := if y0 = 0 then (f_X12_check_30  m o) else (if l2 ≤ ((gI m l0 1) / (4 : Int32)) then (f_X12_check_38 l0 l1 l2 (sI m l0 1 (0 : Int32)) (o ∧ gT m l0 = 12)) else (f_X12_check_30  m (o ∧ gT m l0 = 12)))
set_option maxRecDepth 10000 in
theorem t_X12_check_17 (l : Launch) (E : En) (c0 s0 : Nat) (l0 : Nat) (l1 : Int32) (l2 : Int32) (y0 : Int32) (m : Mm) (o : Prop) : Mh wI l E mi_X12_check c0 s0 17 [(0, .ref l0), (1, .int l1), (2, .int l2)] [.int y0] m o (f_X12_check_17 l0 l1 l2 y0 m o) := by
  refine Mh_if_eq (tgt := 30) dX12_check_17 (by decide) rfl (fun _ => ?_) (fun _ => ?_)
  · refine Mh_sub (lv' := []) [] rfl ?_
    exact t_X12_check_30 l E c0 s0  _ _
  · refine Mh_iload_n 2 rfl dX12_check_20 ?_
    refine Mh_aload_n 0 rfl dX12_check_21 ?_
    refine Mh_gI fd_11_1 fl_RX12_228 dX12_check_22 ?_
    refine Mh_iconst (v := 4) dX12_check_25 (by decide) ?_
    refine Mh_idiv dX12_check_26 ?_
    refine Mh_ok (fun _ => by decide) ?_
    refine Mh_icmp_le (tgt := 33) dX12_check_27 (by decide) rfl (fun _ => ?_) (fun _ => ?_)
    · refine Mh_aload_n 0 rfl dX12_check_33 ?_
      refine Mh_iconst (v := 0) dX12_check_34 (by decide) ?_
      refine Mh_pI fd_11_1 ft_11 rfl fl_RX12_228 rfl dX12_check_35 ?_
      refine Mh_ok (fun h => h.2) ?_
      exact t_X12_check_38 l E c0 s0 _ _ _ _ _
    · refine Mh_sub (lv' := []) [] rfl ?_
      exact t_X12_check_30 l E c0 s0  _ _
def f_X12_check_5 (l0 : Nat) (l1 : Int32) (l2 : Int32) (y0 : Int32) (m : Mm) (o : Prop) : Int32 × Mm × Prop := if y0 = 0 then (f_X12_check_30  m o) else (bnd (F_X12_lies (Int32.toInt64 l2) (0 : Int64) (16 : Int64) m o) (fun v1 m1 o1 => f_X12_check_17 l0 l1 l2 v1 m1 o1))
set_option maxRecDepth 10000 in
theorem t_X12_check_5 (l : Launch) (E : En) (c0 s0 : Nat) (l0 : Nat) (l1 : Int32) (l2 : Int32) (y0 : Int32) (m : Mm) (o : Prop) : Mh wI l E mi_X12_check c0 s0 5 [(0, .ref l0), (1, .int l1), (2, .int l2)] [.int y0] m o (f_X12_check_5 l0 l1 l2 y0 m o) := by
  refine Mh_if_eq (tgt := 30) dX12_check_5 (by decide) rfl (fun _ => ?_) (fun _ => ?_)
  · refine Mh_sub (lv' := []) [] rfl ?_
    exact t_X12_check_30 l E c0 s0  _ _
  · refine Mh_iload_n 2 rfl dX12_check_8 ?_
    refine Mh_i2l dX12_check_9 ?_
    refine Mh_lconst (v := 0) dX12_check_10 (by decide) ?_
    refine Mh_ldc2 (v := 16) gl_RX12_499 dX12_check_11 ?_
    refine Mh_csI (N := mi_X12_lies) (as := [.long (Int32.toInt64 l2), .long (0 : Int64), .long (16 : Int64)]) (st := []) cg_yX12_lies (.inl ml_RX12_188) sv_yX12_lies pd_yX12_lies rfl (by decide) (Nat.le_of_ble_eq_true rfl) rfl dX12_check_14 (T_X12_lies l E _ _ _ _ _) rfl ?_
    exact t_X12_check_17 l E c0 s0 _ _ _ _ _ _
def f_X12_check_0 (l0 : Nat) (l1 : Int32) (l2 : Int32) (m : Mm) (o : Prop) : Int32 × Mm × Prop := bnd (F_X12_isStack l0 l1 m (o ∧ gT m l0 = 12)) (fun v1 m1 o1 => f_X12_check_5 l0 l1 l2 v1 m1 o1)
set_option maxRecDepth 10000 in
theorem t_X12_check_0 (l : Launch) (E : En) (c0 s0 : Nat) (l0 : Nat) (l1 : Int32) (l2 : Int32) (m : Mm) (o : Prop) : Mh wI l E mi_X12_check c0 s0 0 [(0, .ref l0), (1, .int l1), (2, .int l2)] [] m o (f_X12_check_0 l0 l1 l2 m o) := by
  refine Mh_aload_n 0 rfl dX12_check_0 ?_
  refine Mh_iload_n 1 rfl dX12_check_1 ?_
  refine Mh_cvI (N := mi_X12_isStack) (q := l0) (ci := 11) (as := [.int l1]) (st := []) (id) cg_yX12_isStack (by decide) rfl rfl ml_RX12_195 iv_yX12_isStack pd_yX12_isStack rfl (by decide) (Nat.le_of_ble_eq_true rfl) rfl dX12_check_2 (T_X12_isStack l E _ _ _ _) rfl ?_
  exact t_X12_check_5 l E c0 s0 _ _ _ _ _ _
def F_X12_check (a0 : Nat) (a1 : Int32) (a2 : Int32) (m : Mm) (o : Prop) : Int32 × Mm × Prop := f_X12_check_0 a0 a1 a2 m o
theorem T_X12_check (l : Launch) (E : En) (a0 : Nat) (a1 : Int32) (a2 : Int32) (m : Mm) (o : Prop) : Mt wI l E yX12_check mi_X12_check [.ref a0, .int a1, .int a2] m o (F_X12_check a0 a1 a2 m o) :=
  Mt_I (by decide) rfl rfl rfl (Nat.le_of_ble_eq_true rfl) rfl (.inl rfl) (t_X12_check_0 l E _ _ _ _ _ _ _)
def f_X12_isCow_13 (y0 : Int32) (m : Mm) (o : Prop) : Int32 × Mm × Prop := (y0, m, o ∧ (y0 = 0 ∨ y0 = 1))
set_option maxRecDepth 10000 in
theorem t_X12_isCow_13 (l : Launch) (E : En) (c0 s0 : Nat) (y0 : Int32) (m : Mm) (o : Prop) : Mh wI l E mi_X12_isCow c0 s0 13 [] [.int y0] m o (f_X12_isCow_13 y0 m o) := by
  exact Mh_retZ dX12_isCow_13 (.inl rfl) rfl
def f_X12_isCow_0 (l0 : Nat) (l1 : Int32) (m : Mm) (o : Prop) : Int32 × Mm × Prop := bnd (F_X12_lies (Int32.toInt64 l1) (0 : Int64) (Int32.toInt64 ((gI m l0 3) - (1 : Int32))) m (o ∧ gT m l0 = 12)) (fun v1 m1 o1 => f_X12_isCow_13 v1 m1 o1)
set_option maxRecDepth 10000 in
theorem t_X12_isCow_0 (l : Launch) (E : En) (c0 s0 : Nat) (l0 : Nat) (l1 : Int32) (m : Mm) (o : Prop) : Mh wI l E mi_X12_isCow c0 s0 0 [(0, .ref l0), (1, .int l1)] [] m o (f_X12_isCow_0 l0 l1 m o) := by
  refine Mh_iload_n 1 rfl dX12_isCow_0 ?_
  refine Mh_i2l dX12_isCow_1 ?_
  refine Mh_lconst (v := 0) dX12_isCow_2 (by decide) ?_
  refine Mh_aload_n 0 rfl dX12_isCow_3 ?_
  refine Mh_gI fd_11_3 fl_RX12_199 dX12_isCow_4 ?_
  refine Mh_iconst (v := 1) dX12_isCow_7 (by decide) ?_
  refine Mh_isub dX12_isCow_8 ?_
  refine Mh_i2l dX12_isCow_9 ?_
  refine Mh_csI (N := mi_X12_lies) (as := [.long (Int32.toInt64 l1), .long (0 : Int64), .long (Int32.toInt64 ((gI m l0 3) - (1 : Int32)))]) (st := []) cg_yX12_lies (.inl ml_RX12_188) sv_yX12_lies pd_yX12_lies rfl (by decide) (Nat.le_of_ble_eq_true rfl) rfl dX12_isCow_10 (T_X12_lies l E _ _ _ _ _) rfl ?_
  refine Mh_sub (lv' := []) [] rfl ?_
  exact t_X12_isCow_13 l E c0 s0 _ _ _
def F_X12_isCow (a0 : Nat) (a1 : Int32) (m : Mm) (o : Prop) : Int32 × Mm × Prop := f_X12_isCow_0 a0 a1 m o
theorem T_X12_isCow (l : Launch) (E : En) (a0 : Nat) (a1 : Int32) (m : Mm) (o : Prop) : Mt wI l E yX12_isCow mi_X12_isCow [.ref a0, .int a1] m o (F_X12_isCow a0 a1 m o) :=
  Mt_I (by decide) rfl rfl rfl (Nat.le_of_ble_eq_true rfl) rfl (.inr (.inl rfl)) (t_X12_isCow_0 l E _ _ _ _ _ _)
def f_X12_chooses_17 (y0 : Int32) (m : Mm) (o : Prop) : Int32 × Mm × Prop := (y0, m, o)
set_option maxRecDepth 10000 in
theorem t_X12_chooses_17 (l : Launch) (E : En) (c0 s0 : Nat) (y0 : Int32) (m : Mm) (o : Prop) : Mh wI l E mi_X12_chooses c0 s0 17 [] [.int y0] m o (f_X12_chooses_17 y0 m o) := by
  exact Mh_ret dX12_chooses_17 rfl (fun _ => rfl) rfl
def f_X12_chooses_13 (y0 : Int32) (m : Mm) (o : Prop) : Int32 × Mm × Prop := f_X12_chooses_17 y0 m o
set_option maxRecDepth 10000 in
theorem t_X12_chooses_13 (l : Launch) (E : En) (c0 s0 : Nat) (y0 : Int32) (m : Mm) (o : Prop) : Mh wI l E mi_X12_chooses c0 s0 13 [] [.int y0] m o (f_X12_chooses_13 y0 m o) := by
  refine Mh_goto (tgt := 17) dX12_chooses_13 (by decide) ?_
  exact t_X12_chooses_17 l E c0 s0 _ _ _
def f_X12_chooses_5 (l0 : Nat) (l1 : Int32) (y0 : Int32) (m : Mm) (o : Prop) : Int32 × Mm × Prop := if y0 = 0 then (f_X12_chooses_17 (-1 : Int32) m o) else (bnd (F_X12_choice l0 l1 m (o ∧ gT m l0 = 12)) (fun v1 m1 o1 => f_X12_chooses_13 v1 m1 o1))
set_option maxRecDepth 10000 in
theorem t_X12_chooses_5 (l : Launch) (E : En) (c0 s0 : Nat) (l0 : Nat) (l1 : Int32) (y0 : Int32) (m : Mm) (o : Prop) : Mh wI l E mi_X12_chooses c0 s0 5 [(0, .ref l0), (1, .int l1)] [.int y0] m o (f_X12_chooses_5 l0 l1 y0 m o) := by
  refine Mh_if_eq (tgt := 16) dX12_chooses_5 (by decide) rfl (fun _ => ?_) (fun _ => ?_)
  · refine Mh_iconst (v := (-1)) dX12_chooses_16 (by decide) ?_
    refine Mh_sub (lv' := []) [] rfl ?_
    exact t_X12_chooses_17 l E c0 s0 _ _ _
  · refine Mh_aload_n 0 rfl dX12_chooses_8 ?_
    refine Mh_iload_n 1 rfl dX12_chooses_9 ?_
    refine Mh_cvI (N := mi_X12_choice) (q := l0) (ci := 11) (as := [.int l1]) (st := []) (id) cg_yX12_choice (by decide) rfl rfl ml_RX12_387 iv_yX12_choice pd_yX12_choice rfl (by decide) (Nat.le_of_ble_eq_true rfl) rfl dX12_chooses_10 (T_X12_choice l E _ _ _ _) rfl ?_
    refine Mh_sub (lv' := []) [] rfl ?_
    exact t_X12_chooses_13 l E c0 s0 _ _ _
def f_X12_chooses_0 (l0 : Nat) (l1 : Int32) (m : Mm) (o : Prop) : Int32 × Mm × Prop := bnd (F_X12_isCow l0 l1 m (o ∧ gT m l0 = 12)) (fun v1 m1 o1 => f_X12_chooses_5 l0 l1 v1 m1 o1)
set_option maxRecDepth 10000 in
theorem t_X12_chooses_0 (l : Launch) (E : En) (c0 s0 : Nat) (l0 : Nat) (l1 : Int32) (m : Mm) (o : Prop) : Mh wI l E mi_X12_chooses c0 s0 0 [(0, .ref l0), (1, .int l1)] [] m o (f_X12_chooses_0 l0 l1 m o) := by
  refine Mh_aload_n 0 rfl dX12_chooses_0 ?_
  refine Mh_iload_n 1 rfl dX12_chooses_1 ?_
  refine Mh_cvI (N := mi_X12_isCow) (q := l0) (ci := 11) (as := [.int l1]) (st := []) (id) cg_yX12_isCow (by decide) rfl rfl ml_RX12_217 iv_yX12_isCow pd_yX12_isCow rfl (by decide) (Nat.le_of_ble_eq_true rfl) rfl dX12_chooses_2 (T_X12_isCow l E _ _ _ _) rfl ?_
  exact t_X12_chooses_5 l E c0 s0 _ _ _ _ _
def F_X12_chooses (a0 : Nat) (a1 : Int32) (m : Mm) (o : Prop) : Int32 × Mm × Prop := f_X12_chooses_0 a0 a1 m o
theorem T_X12_chooses (l : Launch) (E : En) (a0 : Nat) (a1 : Int32) (m : Mm) (o : Prop) : Mt wI l E yX12_chooses mi_X12_chooses [.ref a0, .int a1] m o (F_X12_chooses a0 a1 m o) :=
  Mt_I (by decide) rfl rfl rfl (Nat.le_of_ble_eq_true rfl) rfl (.inl rfl) (t_X12_chooses_0 l E _ _ _ _ _ _)
def f_X12_standing_27 (k4 : Nat → Int32 → Int32 → Mm → Prop → Int32 × Mm × Prop) (l0 : Nat) (l2 : Int32) (y1 : Int32) (y0 : Int32) (m : Mm) (o : Prop) : Int32 × Mm × Prop := k4 l0 (y0 + y1) (l2 + 1) m o
set_option maxRecDepth 10000 in
theorem t_X12_standing_27 (l : Launch) (E : En) (c0 s0 : Nat) (k4 : Nat → Int32 → Int32 → Mm → Prop → Int32 × Mm × Prop) (hk4 : ∀ (l0 : Nat) (l1 : Int32) (l2 : Int32) (m : Mm) (o : Prop), Mh wI l E mi_X12_standing c0 s0 4 [(0, .ref l0), (1, .int l1), (2, .int l2)] [] m o (k4 l0 l1 l2 m o)) (l0 : Nat) (l2 : Int32) (y1 : Int32) (y0 : Int32) (m : Mm) (o : Prop) : Mh wI l E mi_X12_standing c0 s0 27 [(0, .ref l0), (2, .int l2)] [.int y1, .int y0] m o (f_X12_standing_27 k4 l0 l2 y1 y0 m o) := by
  refine Mh_iadd dX12_standing_27 ?_
  refine Mh_istore_n (lv' := [(1, .int (y0 + y1)), (0, .ref l0), (2, .int l2)]) dX12_standing_28 (Nat.le_of_ble_eq_true rfl) rfl ?_
  refine Mh_iinc (v := l2 + 1) (lv' := [(2, .int (l2 + 1)), (1, .int (y0 + y1)), (0, .ref l0)]) 2 dX12_standing_29 rfl rfl (Nat.le_of_ble_eq_true rfl) rfl ?_
  refine Mh_goto (tgt := 4) dX12_standing_32 (by decide) ?_
  refine Mh_sub (lv' := [(0, .ref l0), (1, .int (y0 + y1)), (2, .int (l2 + 1))]) [2, 1, 0] rfl ?_
  exact hk4 _ _ _ _ _
def f_X12_standing_4b (k4 : Nat → Int32 → Int32 → Mm → Prop → Int32 × Mm × Prop) (l0 : Nat) (l1 : Int32) (l2 : Int32) (m : Mm) (o : Prop) : Int32 × Mm × Prop := if (gI m l0 2) ≤ l2 then (l1, m, (o ∧ gT m l0 = 12)) else (if (gI m (gR m l0 14) (ix l2)) = 0 then (f_X12_standing_27 k4 l0 l2 (0 : Int32) l1 m (((o ∧ gT m l0 = 12) ∧ (gT m l0 = 12 ∧ gR m l0 14 ≠ 0)) ∧ (gT m (gR m l0 14) = 22 ∧ vp_in l2 (gN m (gR m l0 14))))) else (f_X12_standing_27 k4 l0 l2 (1 : Int32) l1 m (((o ∧ gT m l0 = 12) ∧ (gT m l0 = 12 ∧ gR m l0 14 ≠ 0)) ∧ (gT m (gR m l0 14) = 22 ∧ vp_in l2 (gN m (gR m l0 14))))))
set_option maxRecDepth 10000 in
theorem t_X12_standing_4b (l : Launch) (E : En) (c0 s0 : Nat) (k4 : Nat → Int32 → Int32 → Mm → Prop → Int32 × Mm × Prop) (hk4 : ∀ (l0 : Nat) (l1 : Int32) (l2 : Int32) (m : Mm) (o : Prop), Mh wI l E mi_X12_standing c0 s0 4 [(0, .ref l0), (1, .int l1), (2, .int l2)] [] m o (k4 l0 l1 l2 m o)) (l0 : Nat) (l1 : Int32) (l2 : Int32) (m : Mm) (o : Prop) : Mh wI l E mi_X12_standing c0 s0 4 [(0, .ref l0), (1, .int l1), (2, .int l2)] [] m o (f_X12_standing_4b k4 l0 l1 l2 m o) := by
  refine Mh_iload_n 2 rfl dX12_standing_4 ?_
  refine Mh_aload_n 0 rfl dX12_standing_5 ?_
  refine Mh_gI fd_11_2 fl_RX12_192 dX12_standing_6 ?_
  refine Mh_icmp_ge (tgt := 35) dX12_standing_9 (by decide) rfl (fun _ => ?_) (fun _ => ?_)
  · refine Mh_iload_n 1 rfl dX12_standing_35 ?_
    exact Mh_ret dX12_standing_36 rfl (fun _ => rfl) rfl
  · refine Mh_iload_n 1 rfl dX12_standing_12 ?_
    refine Mh_aload_n 0 rfl dX12_standing_13 ?_
    refine Mh_gR fd_11_14 fl_RX12_39 dX12_standing_14 ?_
    refine Mh_iload_n 2 rfl dX12_standing_17 ?_
    refine Mh_zal dX12_standing_18 ?_
    refine Mh_if_eq (tgt := 26) dX12_standing_19 (by decide) rfl (fun _ => ?_) (fun _ => ?_)
    · refine Mh_iconst (v := 0) dX12_standing_26 (by decide) ?_
      refine Mh_sub (lv' := [(0, .ref l0), (2, .int l2)]) [0, 2] rfl ?_
      exact t_X12_standing_27 l E c0 s0 k4 hk4 _ _ _ _ _ _
    · refine Mh_iconst (v := 1) dX12_standing_22 (by decide) ?_
      refine Mh_goto (tgt := 27) dX12_standing_23 (by decide) ?_
      refine Mh_sub (lv' := [(0, .ref l0), (2, .int l2)]) [0, 2] rfl ?_
      exact t_X12_standing_27 l E c0 s0 k4 hk4 _ _ _ _ _ _
def f_X12_standing_4 : Nat → Nat → Int32 → Int32 → Mm → Prop → Int32 × Mm × Prop
  | 0, _, _, _, m, _ => (0, m, False)
  | n + 1, l0, l1, l2, m, o => f_X12_standing_4b (f_X12_standing_4 n) l0 l1 l2 m o
theorem t_X12_standing_4 (l : Launch) (E : En) (c0 s0 : Nat) : ∀ (n : Nat) (l0 : Nat) (l1 : Int32) (l2 : Int32) (m : Mm) (o : Prop), Mh wI l E mi_X12_standing c0 s0 4 [(0, .ref l0), (1, .int l1), (2, .int l2)] [] m o (f_X12_standing_4 n l0 l1 l2 m o)
  | 0, _, _, _, _, _ => Mh_out rfl
  | n + 1, l0, l1, l2, m, o => t_X12_standing_4b l E c0 s0 (f_X12_standing_4 n) (t_X12_standing_4 l E c0 s0 n) l0 l1 l2 m o
def f_X12_standing_0 (l0 : Nat) (m : Mm) (o : Prop) : Int32 × Mm × Prop := f_X12_standing_4 1000 l0 (0 : Int32) (0 : Int32) m o
set_option maxRecDepth 10000 in
theorem t_X12_standing_0 (l : Launch) (E : En) (c0 s0 : Nat) (l0 : Nat) (m : Mm) (o : Prop) : Mh wI l E mi_X12_standing c0 s0 0 [(0, .ref l0)] [] m o (f_X12_standing_0 l0 m o) := by
  refine Mh_iconst (v := 0) dX12_standing_0 (by decide) ?_
  refine Mh_istore_n (lv' := [(1, .int (0 : Int32)), (0, .ref l0)]) dX12_standing_1 (Nat.le_of_ble_eq_true rfl) rfl ?_
  refine Mh_iconst (v := 0) dX12_standing_2 (by decide) ?_
  refine Mh_istore_n (lv' := [(2, .int (0 : Int32)), (1, .int (0 : Int32)), (0, .ref l0)]) dX12_standing_3 (Nat.le_of_ble_eq_true rfl) rfl ?_
  refine Mh_sub (lv' := [(0, .ref l0), (1, .int (0 : Int32)), (2, .int (0 : Int32))]) [2, 1, 0] rfl ?_
  exact t_X12_standing_4 l E c0 s0 _ _ _ _ _ _
def F_X12_standing (a0 : Nat) (m : Mm) (o : Prop) : Int32 × Mm × Prop := f_X12_standing_0 a0 m o
theorem T_X12_standing (l : Launch) (E : En) (a0 : Nat) (m : Mm) (o : Prop) : Mt wI l E yX12_standing mi_X12_standing [.ref a0] m o (F_X12_standing a0 m o) :=
  Mt_I (by decide) rfl rfl rfl (Nat.le_of_ble_eq_true rfl) rfl (.inl rfl) (t_X12_standing_0 l E _ _ _ _ _)
def f_X12_count_86 (y0 : Int32) (m : Mm) (o : Prop) : Int32 × Mm × Prop := (y0, m, o)
set_option maxRecDepth 10000 in
theorem t_X12_count_86 (l : Launch) (E : En) (c0 s0 : Nat) (y0 : Int32) (m : Mm) (o : Prop) : Mh wI l E mi_X12_count c0 s0 86 [] [.int y0] m o (f_X12_count_86 y0 m o) := by
  exact Mh_ret dX12_count_86 rfl (fun _ => rfl) rfl
def f_X12_count_108 (y0 : Int32) (m : Mm) (o : Prop) : Int32 × Mm × Prop := (y0, m, o)
set_option maxRecDepth 10000 in
theorem t_X12_count_108 (l : Launch) (E : En) (c0 s0 : Nat) (y0 : Int32) (m : Mm) (o : Prop) : Mh wI l E mi_X12_count c0 s0 108 [] [.int y0] m o (f_X12_count_108 y0 m o) := by
  exact Mh_ret dX12_count_108 rfl (fun _ => rfl) rfl
def f_X12_count_0 (l0 : Nat) (l1 : Int32) (m : Mm) (o : Prop) : Int32 × Mm × Prop := if l1 = 0 then (gI m l0 4, m, (o ∧ gT m l0 = 12)) else if l1 = 1 then (gI m l0 2, m, (o ∧ gT m l0 = 12)) else if l1 = 2 then (gI m l0 3, m, (o ∧ gT m l0 = 12)) else if l1 = 3 then (gI m l0 22, m, (o ∧ gT m l0 = 12)) else if l1 = 4 then (gI m l0 1, m, (o ∧ gT m l0 = 12)) else if l1 = 5 then (gI m l0 5, m, (o ∧ gT m l0 = 12)) else if l1 = 6 then (bnd (F_X12_standing l0 m (o ∧ gT m l0 = 12)) (fun v1 m1 o1 => f_X12_count_86 v1 m1 o1)) else if l1 = 7 then (gI m l0 6, m, (o ∧ gT m l0 = 12)) else if l1 = 8 then (if (gI m l0 6) = (-1 : Int32) then (f_X12_count_108 (-1 : Int32) m (o ∧ gT m l0 = 12)) else (f_X12_count_108 (gI m l0 7) m (o ∧ gT m l0 = 12))) else ((-1 : Int32), m, o)
set_option maxRecDepth 10000 in
theorem t_X12_count_0 (l : Launch) (E : En) (c0 s0 : Nat) (l0 : Nat) (l1 : Int32) (m : Mm) (o : Prop) : Mh wI l E mi_X12_count c0 s0 0 [(0, .ref l0), (1, .int l1)] [] m o (f_X12_count_0 l0 l1 m o) := by
  refine Mh_iload_n 1 rfl dX12_count_0 ?_
  refine Mh_ite (C := l1 = 0) rfl (fun hs0 => ?_) (fun hs0 => ?_)
  · refine Mh_tsi (off := 51) (tgt := 52) dX12_count_1 (by rw [hs0]; decide) (by rw [hs0]; decide) (by rw [hs0]; decide) (by decide) ?_
    refine Mh_aload_n 0 rfl dX12_count_52 ?_
    refine Mh_gI fd_11_4 fl_RX12_359 dX12_count_53 ?_
    exact Mh_ret dX12_count_56 rfl (fun _ => rfl) rfl
  refine Mh_ite (C := l1 = 1) rfl (fun hs1 => ?_) (fun hs1 => ?_)
  · refine Mh_tsi (off := 56) (tgt := 57) dX12_count_1 (by rw [hs1]; decide) (by rw [hs1]; decide) (by rw [hs1]; decide) (by decide) ?_
    refine Mh_aload_n 0 rfl dX12_count_57 ?_
    refine Mh_gI fd_11_2 fl_RX12_192 dX12_count_58 ?_
    exact Mh_ret dX12_count_61 rfl (fun _ => rfl) rfl
  refine Mh_ite (C := l1 = 2) rfl (fun hs2 => ?_) (fun hs2 => ?_)
  · refine Mh_tsi (off := 61) (tgt := 62) dX12_count_1 (by rw [hs2]; decide) (by rw [hs2]; decide) (by rw [hs2]; decide) (by decide) ?_
    refine Mh_aload_n 0 rfl dX12_count_62 ?_
    refine Mh_gI fd_11_3 fl_RX12_199 dX12_count_63 ?_
    exact Mh_ret dX12_count_66 rfl (fun _ => rfl) rfl
  refine Mh_ite (C := l1 = 3) rfl (fun hs3 => ?_) (fun hs3 => ?_)
  · refine Mh_tsi (off := 66) (tgt := 67) dX12_count_1 (by rw [hs3]; decide) (by rw [hs3]; decide) (by rw [hs3]; decide) (by decide) ?_
    refine Mh_aload_n 0 rfl dX12_count_67 ?_
    refine Mh_gI fd_11_22 fl_RX12_342 dX12_count_68 ?_
    exact Mh_ret dX12_count_71 rfl (fun _ => rfl) rfl
  refine Mh_ite (C := l1 = 4) rfl (fun hs4 => ?_) (fun hs4 => ?_)
  · refine Mh_tsi (off := 71) (tgt := 72) dX12_count_1 (by rw [hs4]; decide) (by rw [hs4]; decide) (by rw [hs4]; decide) (by decide) ?_
    refine Mh_aload_n 0 rfl dX12_count_72 ?_
    refine Mh_gI fd_11_1 fl_RX12_228 dX12_count_73 ?_
    exact Mh_ret dX12_count_76 rfl (fun _ => rfl) rfl
  refine Mh_ite (C := l1 = 5) rfl (fun hs5 => ?_) (fun hs5 => ?_)
  · refine Mh_tsi (off := 76) (tgt := 77) dX12_count_1 (by rw [hs5]; decide) (by rw [hs5]; decide) (by rw [hs5]; decide) (by decide) ?_
    refine Mh_aload_n 0 rfl dX12_count_77 ?_
    refine Mh_gI fd_11_5 fl_RX12_13 dX12_count_78 ?_
    exact Mh_ret dX12_count_81 rfl (fun _ => rfl) rfl
  refine Mh_ite (C := l1 = 6) rfl (fun hs6 => ?_) (fun hs6 => ?_)
  · refine Mh_tsi (off := 81) (tgt := 82) dX12_count_1 (by rw [hs6]; decide) (by rw [hs6]; decide) (by rw [hs6]; decide) (by decide) ?_
    refine Mh_aload_n 0 rfl dX12_count_82 ?_
    refine Mh_cvI (N := mi_X12_standing) (q := l0) (ci := 11) (as := []) (st := []) (id) cg_yX12_standing (by decide) rfl rfl ml_RX12_496 iv_yX12_standing pd_yX12_standing rfl (by decide) (Nat.le_of_ble_eq_true rfl) rfl dX12_count_83 (T_X12_standing l E _ _ _) rfl ?_
    refine Mh_sub (lv' := []) [] rfl ?_
    exact t_X12_count_86 l E c0 s0 _ _ _
  refine Mh_ite (C := l1 = 7) rfl (fun hs7 => ?_) (fun hs7 => ?_)
  · refine Mh_tsi (off := 86) (tgt := 87) dX12_count_1 (by rw [hs7]; decide) (by rw [hs7]; decide) (by rw [hs7]; decide) (by decide) ?_
    refine Mh_aload_n 0 rfl dX12_count_87 ?_
    refine Mh_gI fd_11_6 fl_RX12_17 dX12_count_88 ?_
    exact Mh_ret dX12_count_91 rfl (fun _ => rfl) rfl
  refine Mh_ite (C := l1 = 8) rfl (fun hs8 => ?_) (fun hs8 => ?_)
  · refine Mh_tsi (off := 91) (tgt := 92) dX12_count_1 (by rw [hs8]; decide) (by rw [hs8]; decide) (by rw [hs8]; decide) (by decide) ?_
    refine Mh_aload_n 0 rfl dX12_count_92 ?_
    refine Mh_gI fd_11_6 fl_RX12_17 dX12_count_93 ?_
    refine Mh_iconst (v := (-1)) dX12_count_96 (by decide) ?_
    refine Mh_icmp_ne (tgt := 104) dX12_count_97 (by decide) rfl (fun _ => ?_) (fun _ => ?_)
    · refine Mh_aload_n 0 rfl dX12_count_104 ?_
      refine Mh_gI fd_11_7 fl_RX12_225 dX12_count_105 ?_
      refine Mh_ok (fun h => h.2) ?_
      refine Mh_sub (lv' := []) [] rfl ?_
      exact t_X12_count_108 l E c0 s0 _ _ _
    · refine Mh_iconst (v := (-1)) dX12_count_100 (by decide) ?_
      refine Mh_goto (tgt := 108) dX12_count_101 (by decide) ?_
      refine Mh_sub (lv' := []) [] rfl ?_
      exact t_X12_count_108 l E c0 s0 _ _ _
  refine Mh_tsd (tgt := 109) [0, 1, 2, 3, 4, 5, 6, 7, 8] dX12_count_1 (by decide) (by decide) (List.forall_mem_cons.mpr ⟨lv_neT hs0 (by decide), List.forall_mem_cons.mpr ⟨lv_neT hs1 (by decide), List.forall_mem_cons.mpr ⟨lv_neT hs2 (by decide), List.forall_mem_cons.mpr ⟨lv_neT hs3 (by decide), List.forall_mem_cons.mpr ⟨lv_neT hs4 (by decide), List.forall_mem_cons.mpr ⟨lv_neT hs5 (by decide), List.forall_mem_cons.mpr ⟨lv_neT hs6 (by decide), List.forall_mem_cons.mpr ⟨lv_neT hs7 (by decide), List.forall_mem_cons.mpr ⟨lv_neT hs8 (by decide), fun _ h => absurd h List.not_mem_nil⟩⟩⟩⟩⟩⟩⟩⟩⟩) (by decide) ?_
  refine Mh_iconst (v := (-1)) dX12_count_109 (by decide) ?_
  exact Mh_ret dX12_count_110 rfl (fun _ => rfl) rfl
def F_X12_count (a0 : Nat) (a1 : Int32) (m : Mm) (o : Prop) : Int32 × Mm × Prop := f_X12_count_0 a0 a1 m o
theorem T_X12_count (l : Launch) (E : En) (a0 : Nat) (a1 : Int32) (m : Mm) (o : Prop) : Mt wI l E yX12_count mi_X12_count [.ref a0, .int a1] m o (F_X12_count a0 a1 m o) :=
  Mt_I (by decide) rfl rfl rfl (Nat.le_of_ble_eq_true rfl) rfl (.inl rfl) (t_X12_count_0 l E _ _ _ _ _ _)
def f_X12_isSide_9 (y0 : Int32) (m : Mm) (o : Prop) : Int32 × Mm × Prop := (y0, m, o ∧ (y0 = 0 ∨ y0 = 1))
set_option maxRecDepth 10000 in
theorem t_X12_isSide_9 (l : Launch) (E : En) (c0 s0 : Nat) (y0 : Int32) (m : Mm) (o : Prop) : Mh wI l E mi_X12_isSide c0 s0 9 [] [.int y0] m o (f_X12_isSide_9 y0 m o) := by
  exact Mh_retZ dX12_isSide_9 (.inl rfl) rfl
def f_X12_isSide_0 (l0 : Int32) (m : Mm) (o : Prop) : Int32 × Mm × Prop := bnd (F_X12_lies (Int32.toInt64 l0) (0 : Int64) (9 : Int64) m o) (fun v1 m1 o1 => f_X12_isSide_9 v1 m1 o1)
set_option maxRecDepth 10000 in
theorem t_X12_isSide_0 (l : Launch) (E : En) (c0 s0 : Nat) (l0 : Int32) (m : Mm) (o : Prop) : Mh wI l E mi_X12_isSide c0 s0 0 [(0, .int l0)] [] m o (f_X12_isSide_0 l0 m o) := by
  refine Mh_iload_n 0 rfl dX12_isSide_0 ?_
  refine Mh_i2l dX12_isSide_1 ?_
  refine Mh_lconst (v := 0) dX12_isSide_2 (by decide) ?_
  refine Mh_ldc2 (v := 9) gl_RX12_186 dX12_isSide_3 ?_
  refine Mh_csI (N := mi_X12_lies) (as := [.long (Int32.toInt64 l0), .long (0 : Int64), .long (9 : Int64)]) (st := []) cg_yX12_lies (.inl ml_RX12_188) sv_yX12_lies pd_yX12_lies rfl (by decide) (Nat.le_of_ble_eq_true rfl) rfl dX12_isSide_6 (T_X12_lies l E _ _ _ _ _) rfl ?_
  refine Mh_sub (lv' := []) [] rfl ?_
  exact t_X12_isSide_9 l E c0 s0 _ _ _
def F_X12_isSide (a0 : Int32) (m : Mm) (o : Prop) : Int32 × Mm × Prop := f_X12_isSide_0 a0 m o
theorem T_X12_isSide (l : Launch) (E : En) (a0 : Int32) (m : Mm) (o : Prop) : Mt wI l E yX12_isSide mi_X12_isSide [.int a0] m o (F_X12_isSide a0 m o) :=
  Mt_I (by decide) rfl rfl rfl (Nat.le_of_ble_eq_true rfl) rfl (.inr (.inl rfl)) (t_X12_isSide_0 l E _ _ _ _ _)
