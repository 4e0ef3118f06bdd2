def f_X12_wanders_97 (m : Mm) (o : Prop) : Unit × Mm × Prop := ((), m, o)
set_option maxRecDepth 10000 in
theorem t_X12_wanders_97 (l : Launch) (E : En) (c0 s0 : Nat) (m : Mm) (o : Prop) : Mh wU l E mi_X12_wanders c0 s0 97 [] [] m o (f_X12_wanders_97  m o) := by
  exact Mh_ret dX12_wanders_97 rfl (fun _ => trivial) rfl
def f_X12_wanders_81 (l0 : Nat) (l1 : Int32) (l3 : Int32) (l4 : Int32) (y0 : Int32) (m : Mm) (o : Prop) : Unit × Mm × Prop := if y0 = 0 then (f_X12_wanders_97  m o) else (f_X12_wanders_97  (sI m (gR m l0 15) (ix l1) (((10 : Int32) * l4) + l3)) ((o ∧ (gT m l0 = 12 ∧ gR m l0 15 ≠ 0)) ∧ (gT m (gR m l0 15) = 20 ∧ vp_in l1 (gN m (gR m l0 15)))))
set_option maxRecDepth 10000 in
theorem t_X12_wanders_81 (l : Launch) (E : En) (c0 s0 : Nat) (l0 : Nat) (l1 : Int32) (l3 : Int32) (l4 : Int32) (y0 : Int32) (m : Mm) (o : Prop) : Mh wU l E mi_X12_wanders c0 s0 81 [(0, .ref l0), (1, .int l1), (3, .int l3), (4, .int l4)] [.int y0] m o (f_X12_wanders_81 l0 l1 l3 l4 y0 m o) := by
  refine Mh_if_eq (tgt := 97) dX12_wanders_81 (by decide) rfl (fun _ => ?_) (fun _ => ?_)
  · refine Mh_sub (lv' := []) [] rfl ?_
    exact t_X12_wanders_97 l E c0 s0  _ _
  · refine Mh_aload_n 0 rfl dX12_wanders_84 ?_
    refine Mh_gR fd_11_15 fl_RX12_43 dX12_wanders_85 ?_
    refine Mh_iload_n 1 rfl dX12_wanders_88 ?_
    refine Mh_bipush (v := 10) dX12_wanders_89 (by decide) ?_
    refine Mh_iload 3 rfl dX12_wanders_91 ?_
    refine Mh_imul dX12_wanders_93 ?_
    refine Mh_iload_n 2 rfl dX12_wanders_94 ?_
    refine Mh_iadd dX12_wanders_95 ?_
    refine Mh_ias dX12_wanders_96 ?_
    refine Mh_sub (lv' := []) [] rfl ?_
    exact t_X12_wanders_97 l E c0 s0  _ _
def f_X12_wanders_73 (l0 : Nat) (l1 : Int32) (l3 : Int32) (l4 : Int32) (y0 : Int32) (m : Mm) (o : Prop) : Unit × Mm × Prop := if y0 = 0 then (f_X12_wanders_97  m o) else (bnd (F_X12_isSide l4 m o) (fun v1 m1 o1 => f_X12_wanders_81 l0 l1 l3 l4 v1 m1 o1))
set_option maxRecDepth 10000 in
theorem t_X12_wanders_73 (l : Launch) (E : En) (c0 s0 : Nat) (l0 : Nat) (l1 : Int32) (l3 : Int32) (l4 : Int32) (y0 : Int32) (m : Mm) (o : Prop) : Mh wU l E mi_X12_wanders c0 s0 73 [(0, .ref l0), (1, .int l1), (3, .int l3), (4, .int l4)] [.int y0] m o (f_X12_wanders_73 l0 l1 l3 l4 y0 m o) := by
  refine Mh_if_eq (tgt := 97) dX12_wanders_73 (by decide) rfl (fun _ => ?_) (fun _ => ?_)
  · refine Mh_sub (lv' := []) [] rfl ?_
    exact t_X12_wanders_97 l E c0 s0  _ _
  · refine Mh_iload 3 rfl dX12_wanders_76 ?_
    refine Mh_csI (N := mi_X12_isSide) (as := [.int l4]) (st := []) cg_yX12_isSide (.inl ml_RX12_206) sv_yX12_isSide pd_yX12_isSide rfl (by decide) (Nat.le_of_ble_eq_true rfl) rfl dX12_wanders_78 (T_X12_isSide l E _ _ _) rfl ?_
    exact t_X12_wanders_81 l E c0 s0 _ _ _ _ _ _ _
def f_X12_wanders_66 (l0 : Nat) (l1 : Int32) (l3 : Int32) (y1 : Int32) (y0 : Int32) (m : Mm) (o : Prop) : Unit × Mm × Prop := bnd (F_X12_isSide l3 m o) (fun v1 m1 o1 => f_X12_wanders_73 l0 l1 l3 (y0 + y1) v1 m1 o1)
set_option maxRecDepth 10000 in
theorem t_X12_wanders_66 (l : Launch) (E : En) (c0 s0 : Nat) (l0 : Nat) (l1 : Int32) (l3 : Int32) (y1 : Int32) (y0 : Int32) (m : Mm) (o : Prop) : Mh wU l E mi_X12_wanders c0 s0 66 [(0, .ref l0), (1, .int l1), (3, .int l3)] [.int y1, .int y0] m o (f_X12_wanders_66 l0 l1 l3 y1 y0 m o) := by
  refine Mh_iadd dX12_wanders_66 ?_
  refine Mh_istore (lv' := [(4, .int (y0 + y1)), (0, .ref l0), (1, .int l1), (3, .int l3)]) dX12_wanders_67 (Nat.le_of_ble_eq_true rfl) rfl ?_
  refine Mh_iload_n 3 rfl dX12_wanders_69 ?_
  refine Mh_csI (N := mi_X12_isSide) (as := [.int l3]) (st := []) cg_yX12_isSide (.inl ml_RX12_206) sv_yX12_isSide pd_yX12_isSide rfl (by decide) (Nat.le_of_ble_eq_true rfl) rfl dX12_wanders_70 (T_X12_isSide l E _ _ _) rfl ?_
  refine Mh_sub (lv' := [(0, .ref l0), (1, .int l1), (3, .int l3), (4, .int (y0 + y1))]) [1, 2, 3, 0] rfl ?_
  exact t_X12_wanders_73 l E c0 s0 _ _ _ _ _ _ _
def f_X12_wanders_37 (l0 : Nat) (l1 : Int32) (l2 : Int32) (y1 : Int32) (y0 : Int32) (m : Mm) (o : Prop) : Unit × Mm × Prop := if l2 = 0 then (f_X12_wanders_66 l0 l1 (y0 + y1) (1 : Int32) ((gI m (gR m l0 15) (ix l1)) / (10 : Int32)) m ((o ∧ (gT m l0 = 12 ∧ gR m l0 15 ≠ 0)) ∧ (gT m (gR m l0 15) = 20 ∧ vp_in l1 (gN m (gR m l0 15))))) else (if l2 = (2 : Int32) then (f_X12_wanders_66 l0 l1 (y0 + y1) (-1 : Int32) ((gI m (gR m l0 15) (ix l1)) / (10 : Int32)) m ((o ∧ (gT m l0 = 12 ∧ gR m l0 15 ≠ 0)) ∧ (gT m (gR m l0 15) = 20 ∧ vp_in l1 (gN m (gR m l0 15))))) else (f_X12_wanders_66 l0 l1 (y0 + y1) (0 : Int32) ((gI m (gR m l0 15) (ix l1)) / (10 : Int32)) m ((o ∧ (gT m l0 = 12 ∧ gR m l0 15 ≠ 0)) ∧ (gT m (gR m l0 15) = 20 ∧ vp_in l1 (gN m (gR m l0 15))))))
set_option maxRecDepth 10000 in
theorem t_X12_wanders_37 (l : Launch) (E : En) (c0 s0 : Nat) (l0 : Nat) (l1 : Int32) (l2 : Int32) (y1 : Int32) (y0 : Int32) (m : Mm) (o : Prop) : Mh wU l E mi_X12_wanders c0 s0 37 [(0, .ref l0), (1, .int l1), (2, .int l2)] [.int y1, .int y0] m o (f_X12_wanders_37 l0 l1 l2 y1 y0 m o) := by
  refine Mh_iadd dX12_wanders_37 ?_
  refine Mh_istore_n (lv' := [(3, .int (y0 + y1)), (0, .ref l0), (1, .int l1), (2, .int l2)]) dX12_wanders_38 (Nat.le_of_ble_eq_true rfl) rfl ?_
  refine Mh_aload_n 1 rfl dX12_wanders_39 ?_
  refine Mh_gR fd_11_15 fl_RX12_43 dX12_wanders_40 ?_
  refine Mh_iload_n 2 rfl dX12_wanders_43 ?_
  refine Mh_ial dX12_wanders_44 ?_
  refine Mh_bipush (v := 10) dX12_wanders_45 (by decide) ?_
  refine Mh_idiv dX12_wanders_47 ?_
  refine Mh_ok (fun _ => by decide) ?_
  refine Mh_iload_n 3 rfl dX12_wanders_48 ?_
  refine Mh_if_ne (tgt := 56) dX12_wanders_49 (by decide) rfl (fun _ => ?_) (fun _ => ?_)
  · refine Mh_iload_n 3 rfl dX12_wanders_56 ?_
    refine Mh_iconst (v := 2) dX12_wanders_57 (by decide) ?_
    refine Mh_icmp_ne (tgt := 65) dX12_wanders_58 (by decide) rfl (fun _ => ?_) (fun _ => ?_)
    · refine Mh_iconst (v := 0) dX12_wanders_65 (by decide) ?_
      refine Mh_sub (lv' := [(0, .ref l0), (1, .int l1), (3, .int (y0 + y1))]) [1, 2, 0] rfl ?_
      exact t_X12_wanders_66 l E c0 s0 _ _ _ _ _ _ _
    · refine Mh_iconst (v := (-1)) dX12_wanders_61 (by decide) ?_
      refine Mh_goto (tgt := 66) dX12_wanders_62 (by decide) ?_
      refine Mh_sub (lv' := [(0, .ref l0), (1, .int l1), (3, .int (y0 + y1))]) [1, 2, 0] rfl ?_
      exact t_X12_wanders_66 l E c0 s0 _ _ _ _ _ _ _
  · refine Mh_iconst (v := 1) dX12_wanders_52 (by decide) ?_
    refine Mh_goto (tgt := 66) dX12_wanders_53 (by decide) ?_
    refine Mh_sub (lv' := [(0, .ref l0), (1, .int l1), (3, .int (y0 + y1))]) [1, 2, 0] rfl ?_
    exact t_X12_wanders_66 l E c0 s0 _ _ _ _ _ _ _
def f_X12_wanders_5 (l0 : Nat) (l1 : Int32) (l2 : Int32) (y0 : Int32) (m : Mm) (o : Prop) : Unit × Mm × Prop := if y0 = 0 then ((), m, o) else (if l2 = (1 : Int32) then (f_X12_wanders_37 l0 l1 l2 (1 : Int32) (irm (gI m (gR m l0 15) (ix l1)) (10 : Int32)) m ((o ∧ (gT m l0 = 12 ∧ gR m l0 15 ≠ 0)) ∧ (gT m (gR m l0 15) = 20 ∧ vp_in l1 (gN m (gR m l0 15))))) else (if l2 = (3 : Int32) then (f_X12_wanders_37 l0 l1 l2 (-1 : Int32) (irm (gI m (gR m l0 15) (ix l1)) (10 : Int32)) m ((o ∧ (gT m l0 = 12 ∧ gR m l0 15 ≠ 0)) ∧ (gT m (gR m l0 15) = 20 ∧ vp_in l1 (gN m (gR m l0 15))))) else (f_X12_wanders_37 l0 l1 l2 (0 : Int32) (irm (gI m (gR m l0 15) (ix l1)) (10 : Int32)) m ((o ∧ (gT m l0 = 12 ∧ gR m l0 15 ≠ 0)) ∧ (gT m (gR m l0 15) = 20 ∧ vp_in l1 (gN m (gR m l0 15)))))))
set_option maxRecDepth 10000 in
theorem t_X12_wanders_5 (l : Launch) (E : En) (c0 s0 : Nat) (l0 : Nat) (l1 : Int32) (l2 : Int32) (y0 : Int32) (m : Mm) (o : Prop) : Mh wU l E mi_X12_wanders c0 s0 5 [(0, .ref l0), (1, .int l1), (2, .int l2)] [.int y0] m o (f_X12_wanders_5 l0 l1 l2 y0 m o) := by
  refine Mh_if_ne (tgt := 9) dX12_wanders_5 (by decide) rfl (fun _ => ?_) (fun _ => ?_)
  · refine Mh_aload_n 0 rfl dX12_wanders_9 ?_
    refine Mh_gR fd_11_15 fl_RX12_43 dX12_wanders_10 ?_
    refine Mh_iload_n 1 rfl dX12_wanders_13 ?_
    refine Mh_ial dX12_wanders_14 ?_
    refine Mh_bipush (v := 10) dX12_wanders_15 (by decide) ?_
    refine Mh_irem dX12_wanders_17 ?_
    refine Mh_ok (fun _ => by decide) ?_
    refine Mh_iload_n 2 rfl dX12_wanders_18 ?_
    refine Mh_iconst (v := 1) dX12_wanders_19 (by decide) ?_
    refine Mh_icmp_ne (tgt := 27) dX12_wanders_20 (by decide) rfl (fun _ => ?_) (fun _ => ?_)
    · refine Mh_iload_n 2 rfl dX12_wanders_27 ?_
      refine Mh_iconst (v := 3) dX12_wanders_28 (by decide) ?_
      refine Mh_icmp_ne (tgt := 36) dX12_wanders_29 (by decide) rfl (fun _ => ?_) (fun _ => ?_)
      · refine Mh_iconst (v := 0) dX12_wanders_36 (by decide) ?_
        exact t_X12_wanders_37 l E c0 s0 _ _ _ _ _ _ _
      · refine Mh_iconst (v := (-1)) dX12_wanders_32 (by decide) ?_
        refine Mh_goto (tgt := 37) dX12_wanders_33 (by decide) ?_
        exact t_X12_wanders_37 l E c0 s0 _ _ _ _ _ _ _
    · refine Mh_iconst (v := 1) dX12_wanders_23 (by decide) ?_
      refine Mh_goto (tgt := 37) dX12_wanders_24 (by decide) ?_
      exact t_X12_wanders_37 l E c0 s0 _ _ _ _ _ _ _
  · exact Mh_ret dX12_wanders_8 rfl (fun _ => trivial) rfl
def f_X12_wanders_0 (l0 : Nat) (l1 : Int32) (l2 : Int32) (m : Mm) (o : Prop) : Unit × Mm × Prop := bnd (F_X12_isCow l0 l1 m (o ∧ gT m l0 = 12)) (fun v1 m1 o1 => f_X12_wanders_5 l0 l1 l2 v1 m1 o1)
set_option maxRecDepth 10000 in
theorem t_X12_wanders_0 (l : Launch) (E : En) (c0 s0 : Nat) (l0 : Nat) (l1 : Int32) (l2 : Int32) (m : Mm) (o : Prop) : Mh wU l E mi_X12_wanders c0 s0 0 [(0, .ref l0), (1, .int l1), (2, .int l2)] [] m o (f_X12_wanders_0 l0 l1 l2 m o) := by
  refine Mh_aload_n 0 rfl dX12_wanders_0 ?_
  refine Mh_iload_n 1 rfl dX12_wanders_1 ?_
  refine Mh_cvI (N := mi_X12_isCow) (q := l0) (ci := 11) (as := [.int l1]) (st := []) (id) cg_yX12_isCow (by decide) rfl rfl ml_RX12_217 iv_yX12_isCow pd_yX12_isCow rfl (by decide) (Nat.le_of_ble_eq_true rfl) rfl dX12_wanders_2 (T_X12_isCow l E _ _ _ _) rfl ?_
  exact t_X12_wanders_5 l E c0 s0 _ _ _ _ _ _
def F_X12_wanders (a0 : Nat) (a1 : Int32) (a2 : Int32) (m : Mm) (o : Prop) : Unit × Mm × Prop := f_X12_wanders_0 a0 a1 a2 m o
theorem T_X12_wanders (l : Launch) (E : En) (a0 : Nat) (a1 : Int32) (a2 : Int32) (m : Mm) (o : Prop) : Mt wU l E yX12_wanders mi_X12_wanders [.ref a0, .int a1, .int a2] m o (F_X12_wanders a0 a1 a2 m o) :=
  Mt_U (by decide) rfl (fun h => by cases h) rfl (Nat.le_of_ble_eq_true rfl) rfl (t_X12_wanders_0 l E _ _ _ _ _ _ _)
def f_X12_draw_64 (k16 : Nat → Int32 → Int32 → Mm → Prop → Int32 × Mm × Prop) (l0 : Nat) (l1 : Int32) (l2 : Int32) (m : Mm) (o : Prop) : Int32 × Mm × Prop := k16 l0 l1 (l2 + 1) m o
set_option maxRecDepth 10000 in
theorem t_X12_draw_64 (l : Launch) (E : En) (c0 s0 : Nat) (k16 : Nat → Int32 → Int32 → Mm → Prop → Int32 × Mm × Prop) (hk16 : ∀ (l0 : Nat) (l1 : Int32) (l2 : Int32) (m : Mm) (o : Prop), Mh wI l E mi_X12_draw c0 s0 16 [(0, .ref l0), (1, .int l1), (2, .int l2)] [] m o (k16 l0 l1 l2 m o)) (l0 : Nat) (l1 : Int32) (l2 : Int32) (m : Mm) (o : Prop) : Mh wI l E mi_X12_draw c0 s0 64 [(0, .ref l0), (1, .int l1), (2, .int l2)] [] m o (f_X12_draw_64 k16 l0 l1 l2 m o) := by
  refine Mh_iinc (v := l2 + 1) (lv' := [(2, .int (l2 + 1)), (0, .ref l0), (1, .int l1)]) 2 dX12_draw_64 rfl rfl (Nat.le_of_ble_eq_true rfl) rfl ?_
  refine Mh_goto (tgt := 16) dX12_draw_67 (by decide) ?_
  refine Mh_sub (lv' := [(0, .ref l0), (1, .int l1), (2, .int (l2 + 1))]) [1, 2, 0] rfl ?_
  exact hk16 _ _ _ _ _
def f_X12_draw_60 (k16 : Nat → Int32 → Int32 → Mm → Prop → Int32 × Mm × Prop) (l0 : Nat) (l1 : Int32) (l2 : Int32) (m : Mm) (o : Prop) : Int32 × Mm × Prop := bnd (F_X12_dayOne l0 m (o ∧ gT m l0 = 12)) (fun _ m1 o1 => f_X12_draw_64 k16 l0 l1 l2 m1 o1)
set_option maxRecDepth 10000 in
theorem t_X12_draw_60 (l : Launch) (E : En) (c0 s0 : Nat) (k16 : Nat → Int32 → Int32 → Mm → Prop → Int32 × Mm × Prop) (hk16 : ∀ (l0 : Nat) (l1 : Int32) (l2 : Int32) (m : Mm) (o : Prop), Mh wI l E mi_X12_draw c0 s0 16 [(0, .ref l0), (1, .int l1), (2, .int l2)] [] m o (k16 l0 l1 l2 m o)) (l0 : Nat) (l1 : Int32) (l2 : Int32) (m : Mm) (o : Prop) : Mh wI l E mi_X12_draw c0 s0 60 [(0, .ref l0), (1, .int l1), (2, .int l2)] [] m o (f_X12_draw_60 k16 l0 l1 l2 m o) := by
  refine Mh_aload_n 0 rfl dX12_draw_60 ?_
  refine Mh_cvU (N := mi_X12_dayOne) (q := l0) (ci := 11) (as := []) (st := []) (id) cg_yX12_dayOne (by decide) rfl rfl ml_RX12_401 iv_yX12_dayOne pd_yX12_dayOne rfl (by decide) (Nat.le_of_ble_eq_true rfl) rfl dX12_draw_61 (T_X12_dayOne l E _ _ _) rfl ?_
  exact t_X12_draw_64 l E c0 s0 k16 hk16 _ _ _ _ _
def f_X12_draw_40 (k16 : Nat → Int32 → Int32 → Mm → Prop → Int32 × Mm × Prop) (l0 : Nat) (l1 : Int32) (l2 : Int32) (m : Mm) (o : Prop) : Int32 × Mm × Prop := bnd (F_X12_wanders l0 (irm (gI m l0 5) (16 : Int32)) (irm ((gI m l0 5) / (16 : Int32)) (4 : Int32)) m (o ∧ gT m l0 = 12)) (fun _ m1 o1 => f_X12_draw_60 k16 l0 l1 l2 m1 o1)
set_option maxRecDepth 10000 in
theorem t_X12_draw_40 (l : Launch) (E : En) (c0 s0 : Nat) (k16 : Nat → Int32 → Int32 → Mm → Prop → Int32 × Mm × Prop) (hk16 : ∀ (l0 : Nat) (l1 : Int32) (l2 : Int32) (m : Mm) (o : Prop), Mh wI l E mi_X12_draw c0 s0 16 [(0, .ref l0), (1, .int l1), (2, .int l2)] [] m o (k16 l0 l1 l2 m o)) (l0 : Nat) (l1 : Int32) (l2 : Int32) (m : Mm) (o : Prop) : Mh wI l E mi_X12_draw c0 s0 40 [(0, .ref l0), (1, .int l1), (2, .int l2)] [] m o (f_X12_draw_40 k16 l0 l1 l2 m o) := by
  refine Mh_aload_n 0 rfl dX12_draw_40 ?_
  refine Mh_aload_n 0 rfl dX12_draw_41 ?_
  refine Mh_gI fd_11_5 fl_RX12_13 dX12_draw_42 ?_
  refine Mh_bipush (v := 16) dX12_draw_45 (by decide) ?_
  refine Mh_irem dX12_draw_47 ?_
  refine Mh_ok (fun _ => by decide) ?_
  refine Mh_aload_n 0 rfl dX12_draw_48 ?_
  refine Mh_gI fd_11_5 fl_RX12_13 dX12_draw_49 ?_
  refine Mh_ok (fun h => h.2) ?_
  refine Mh_bipush (v := 16) dX12_draw_52 (by decide) ?_
  refine Mh_idiv dX12_draw_54 ?_
  refine Mh_ok (fun _ => by decide) ?_
  refine Mh_iconst (v := 4) dX12_draw_55 (by decide) ?_
  refine Mh_irem dX12_draw_56 ?_
  refine Mh_ok (fun _ => by decide) ?_
  refine Mh_cvU (N := mi_X12_wanders) (q := l0) (ci := 11) (as := [.int (irm (gI m l0 5) (16 : Int32)), .int (irm ((gI m l0 5) / (16 : Int32)) (4 : Int32))]) (st := []) (fun h => ⟨h, (fun h => h.2) h⟩) cg_yX12_wanders (by decide) rfl rfl ml_RX12_490 iv_yX12_wanders pd_yX12_wanders rfl (by decide) (Nat.le_of_ble_eq_true rfl) rfl dX12_draw_57 (T_X12_wanders l E _ _ _ _ _) rfl ?_
  exact t_X12_draw_60 l E c0 s0 k16 hk16 _ _ _ _ _
def f_X12_draw_16b (k16 : Nat → Int32 → Int32 → Mm → Prop → Int32 × Mm × Prop) (l0 : Nat) (l1 : Int32) (l2 : Int32) (m : Mm) (o : Prop) : Int32 × Mm × Prop := if l1 ≤ l2 then (gI m l0 51, m, (o ∧ gT m l0 = 12)) else (f_X12_draw_40 k16 l0 l1 l2 (sI m l0 5 (irm (((25173 : Int32) * (gI m l0 5)) + (13849 : Int32)) (65536 : Int32))) (o ∧ gT m l0 = 12))
set_option maxRecDepth 10000 in
theorem t_X12_draw_16b (l : Launch) (E : En) (c0 s0 : Nat) (k16 : Nat → Int32 → Int32 → Mm → Prop → Int32 × Mm × Prop) (hk16 : ∀ (l0 : Nat) (l1 : Int32) (l2 : Int32) (m : Mm) (o : Prop), Mh wI l E mi_X12_draw c0 s0 16 [(0, .ref l0), (1, .int l1), (2, .int l2)] [] m o (k16 l0 l1 l2 m o)) (l0 : Nat) (l1 : Int32) (l2 : Int32) (m : Mm) (o : Prop) : Mh wI l E mi_X12_draw c0 s0 16 [(0, .ref l0), (1, .int l1), (2, .int l2)] [] m o (f_X12_draw_16b k16 l0 l1 l2 m o) := by
  refine Mh_iload_n 2 rfl dX12_draw_16 ?_
  refine Mh_iload_n 1 rfl dX12_draw_17 ?_
  refine Mh_icmp_ge (tgt := 70) dX12_draw_18 (by decide) rfl (fun _ => ?_) (fun _ => ?_)
  · refine Mh_aload_n 0 rfl dX12_draw_70 ?_
    refine Mh_gI fd_11_51 fl_RX12_390 dX12_draw_71 ?_
    exact Mh_ret dX12_draw_74 rfl (fun _ => rfl) rfl
  · refine Mh_aload_n 0 rfl dX12_draw_21 ?_
    refine Mh_sipush (v := 25173) dX12_draw_22 (by decide) ?_
    refine Mh_aload_n 0 rfl dX12_draw_25 ?_
    refine Mh_gI fd_11_5 fl_RX12_13 dX12_draw_26 ?_
    refine Mh_imul dX12_draw_29 ?_
    refine Mh_sipush (v := 13849) dX12_draw_30 (by decide) ?_
    refine Mh_iadd dX12_draw_33 ?_
    refine Mh_ldc (v := 65536) gc_RX12_163 dX12_draw_34 ?_
    refine Mh_irem dX12_draw_36 ?_
    refine Mh_ok (fun _ => by decide) ?_
    refine Mh_pI fd_11_5 ft_11 rfl fl_RX12_13 rfl dX12_draw_37 ?_
    refine Mh_ok (fun h => h.2) ?_
    exact t_X12_draw_40 l E c0 s0 k16 hk16 _ _ _ _ _
def f_X12_draw_16 : Nat → Nat → Int32 → Int32 → Mm → Prop → Int32 × Mm × Prop
  | 0, _, _, _, m, _ => (0, m, False)
  | n + 1, l0, l1, l2, m, o => f_X12_draw_16b (f_X12_draw_16 n) l0 l1 l2 m o
theorem t_X12_draw_16 (l : Launch) (E : En) (c0 s0 : Nat) : ∀ (n : Nat) (l0 : Nat) (l1 : Int32) (l2 : Int32) (m : Mm) (o : Prop), Mh wI l E mi_X12_draw c0 s0 16 [(0, .ref l0), (1, .int l1), (2, .int l2)] [] m o (f_X12_draw_16 n l0 l1 l2 m o)
  | 0, _, _, _, _, _ => Mh_out rfl
  | n + 1, l0, l1, l2, m, o => t_X12_draw_16b l E c0 s0 (f_X12_draw_16 n) (t_X12_draw_16 l E c0 s0 n) l0 l1 l2 m o
def f_X12_draw_14 (l0 : Nat) (l1 : Int32) (m : Mm) (o : Prop) : Int32 × Mm × Prop := f_X12_draw_16 1000 l0 l1 (0 : Int32) m o
set_option maxRecDepth 10000 in
theorem t_X12_draw_14 (l : Launch) (E : En) (c0 s0 : Nat) (l0 : Nat) (l1 : Int32) (m : Mm) (o : Prop) : Mh wI l E mi_X12_draw c0 s0 14 [(0, .ref l0), (1, .int l1)] [] m o (f_X12_draw_14 l0 l1 m o) := by
  refine Mh_iconst (v := 0) dX12_draw_14 (by decide) ?_
  refine Mh_istore_n (lv' := [(2, .int (0 : Int32)), (0, .ref l0), (1, .int l1)]) dX12_draw_15 (Nat.le_of_ble_eq_true rfl) rfl ?_
  refine Mh_sub (lv' := [(0, .ref l0), (1, .int l1), (2, .int (0 : Int32))]) [1, 2, 0] rfl ?_
  exact t_X12_draw_16 l E c0 s0 _ _ _ _ _ _
def f_X12_draw_4 (l0 : Nat) (l1 : Int32) (y0 : Int32) (m : Mm) (o : Prop) : Int32 × Mm × Prop := if y0 = 0 then ((-1 : Int32), m, o) else (f_X12_draw_14 l0 l1 (sI m l0 51 (0 : Int32)) (o ∧ gT m l0 = 12))
set_option maxRecDepth 10000 in
theorem t_X12_draw_4 (l : Launch) (E : En) (c0 s0 : Nat) (l0 : Nat) (l1 : Int32) (y0 : Int32) (m : Mm) (o : Prop) : Mh wI l E mi_X12_draw c0 s0 4 [(0, .ref l0), (1, .int l1)] [.int y0] m o (f_X12_draw_4 l0 l1 y0 m o) := by
  refine Mh_if_ne (tgt := 9) dX12_draw_4 (by decide) rfl (fun _ => ?_) (fun _ => ?_)
  · refine Mh_aload_n 0 rfl dX12_draw_9 ?_
    refine Mh_iconst (v := 0) dX12_draw_10 (by decide) ?_
    refine Mh_pI fd_11_51 ft_11 rfl fl_RX12_390 rfl dX12_draw_11 ?_
    exact t_X12_draw_14 l E c0 s0 _ _ _ _
  · refine Mh_iconst (v := (-1)) dX12_draw_7 (by decide) ?_
    exact Mh_ret dX12_draw_8 rfl (fun _ => rfl) rfl
def f_X12_draw_0 (l0 : Nat) (l1 : Int32) (m : Mm) (o : Prop) : Int32 × Mm × Prop := bnd (F_X12_areDays l1 m o) (fun v1 m1 o1 => f_X12_draw_4 l0 l1 v1 m1 o1)
set_option maxRecDepth 10000 in
theorem t_X12_draw_0 (l : Launch) (E : En) (c0 s0 : Nat) (l0 : Nat) (l1 : Int32) (m : Mm) (o : Prop) : Mh wI l E mi_X12_draw c0 s0 0 [(0, .ref l0), (1, .int l1)] [] m o (f_X12_draw_0 l0 l1 m o) := by
  refine Mh_iload_n 1 rfl dX12_draw_0 ?_
  refine Mh_csI (N := mi_X12_areDays) (as := [.int l1]) (st := []) cg_yX12_areDays (.inl ml_RX12_398) sv_yX12_areDays pd_yX12_areDays rfl (by decide) (Nat.le_of_ble_eq_true rfl) rfl dX12_draw_1 (T_X12_areDays l E _ _ _) rfl ?_
  exact t_X12_draw_4 l E c0 s0 _ _ _ _ _
def F_X12_draw (a0 : Nat) (a1 : Int32) (m : Mm) (o : Prop) : Int32 × Mm × Prop := f_X12_draw_0 a0 a1 m o
theorem T_X12_draw (l : Launch) (E : En) (a0 : Nat) (a1 : Int32) (m : Mm) (o : Prop) : Mt wI l E yX12_draw mi_X12_draw [.ref a0, .int a1] m o (F_X12_draw a0 a1 m o) :=
  Mt_I (by decide) rfl rfl rfl (Nat.le_of_ble_eq_true rfl) rfl (.inl rfl) (t_X12_draw_0 l E _ _ _ _ _ _)
def f_X12_eaten_26 (m : Mm) (o : Prop) : Int32 × Mm × Prop := ((-2 : Int32), m, o)
set_option maxRecDepth 10000 in
theorem t_X12_eaten_26 (l : Launch) (E : En) (c0 s0 : Nat) (m : Mm) (o : Prop) : Mh wI l E mi_X12_eaten c0 s0 26 [] [] m o (f_X12_eaten_26  m o) := by
  refine Mh_bipush (v := (-2)) dX12_eaten_26 (by decide) ?_
  exact Mh_ret dX12_eaten_28 rfl (fun _ => rfl) rfl
def f_X12_eaten_95 (k34 : Nat → Int32 → Int32 → Int32 → Int32 → Mm → Prop → Int32 × Mm × Prop) (k46 : Nat → Int32 → Int32 → Int32 → Int32 → Int32 → Mm → Prop → Int32 × Mm × Prop) (l0 : Nat) (l1 : Int32) (l2 : Int32) (l4 : Int32) (l5 : Int32) (y1 : Int32) (y0 : Int32) (m : Mm) (o : Prop) : Int32 × Mm × Prop := k46 l0 l1 l2 (y0 + y1) l4 (l5 + 1) m o
set_option maxRecDepth 10000 in
theorem t_X12_eaten_95 (l : Launch) (E : En) (c0 s0 : Nat) (k34 : Nat → Int32 → Int32 → Int32 → Int32 → Mm → Prop → Int32 × Mm × Prop) (hk34 : ∀ (l0 : Nat) (l1 : Int32) (l2 : Int32) (l3 : Int32) (l4 : Int32) (m : Mm) (o : Prop), Mh wI l E mi_X12_eaten c0 s0 34 [(0, .ref l0), (1, .int l1), (2, .int l2), (3, .int l3), (4, .int l4)] [] m o (k34 l0 l1 l2 l3 l4 m o)) (k46 : Nat → Int32 → Int32 → Int32 → Int32 → Int32 → Mm → Prop → Int32 × Mm × Prop) (hk46 : ∀ (l0 : Nat) (l1 : Int32) (l2 : Int32) (l3 : Int32) (l4 : Int32) (l5 : Int32) (m : Mm) (o : Prop), Mh wI l E mi_X12_eaten c0 s0 46 [(0, .ref l0), (1, .int l1), (2, .int l2), (3, .int l3), (4, .int l4), (5, .int l5)] [] m o (k46 l0 l1 l2 l3 l4 l5 m o)) (l0 : Nat) (l1 : Int32) (l2 : Int32) (l4 : Int32) (l5 : Int32) (y1 : Int32) (y0 : Int32) (m : Mm) (o : Prop) : Mh wI l E mi_X12_eaten c0 s0 95 [(0, .ref l0), (1, .int l1), (2, .int l2), (4, .int l4), (5, .int l5)] [.int y1, .int y0] m o (f_X12_eaten_95 k34 k46 l0 l1 l2 l4 l5 y1 y0 m o) := by
  refine Mh_iadd dX12_eaten_95 ?_
  refine Mh_istore_n (lv' := [(3, .int (y0 + y1)), (0, .ref l0), (1, .int l1), (2, .int l2), (4, .int l4), (5, .int l5)]) dX12_eaten_96 (Nat.le_of_ble_eq_true rfl) rfl ?_
  refine Mh_iinc (v := l5 + 1) (lv' := [(5, .int (l5 + 1)), (3, .int (y0 + y1)), (0, .ref l0), (1, .int l1), (2, .int l2), (4, .int l4)]) 5 dX12_eaten_97 rfl rfl (Nat.le_of_ble_eq_true rfl) rfl ?_
  refine Mh_goto (tgt := 46) dX12_eaten_100 (by decide) ?_
  refine Mh_sub (lv' := [(0, .ref l0), (1, .int l1), (2, .int l2), (3, .int (y0 + y1)), (4, .int l4), (5, .int (l5 + 1))]) [2, 3, 4, 1, 5, 0] rfl ?_
  exact hk46 _ _ _ _ _ _ _ _
def f_X12_eaten_78 (k34 : Nat → Int32 → Int32 → Int32 → Int32 → Mm → Prop → Int32 × Mm × Prop) (k46 : Nat → Int32 → Int32 → Int32 → Int32 → Int32 → Mm → Prop → Int32 × Mm × Prop) (l0 : Nat) (l1 : Int32) (l2 : Int32) (l4 : Int32) (l5 : Int32) (y0 : Int32) (m : Mm) (o : Prop) : Int32 × Mm × Prop := f_X12_eaten_95 k34 k46 l0 l1 l2 l4 l5 (gI m (gR m l0 21) (ix (((16 : Int32) * l4) + l5))) y0 m ((o ∧ (gT m l0 = 12 ∧ gR m l0 21 ≠ 0)) ∧ (gT m (gR m l0 21) = 20 ∧ vp_in (((16 : Int32) * l4) + l5) (gN m (gR m l0 21))))
set_option maxRecDepth 10000 in
theorem t_X12_eaten_78 (l : Launch) (E : En) (c0 s0 : Nat) (k34 : Nat → Int32 → Int32 → Int32 → Int32 → Mm → Prop → Int32 × Mm × Prop) (hk34 : ∀ (l0 : Nat) (l1 : Int32) (l2 : Int32) (l3 : Int32) (l4 : Int32) (m : Mm) (o : Prop), Mh wI l E mi_X12_eaten c0 s0 34 [(0, .ref l0), (1, .int l1), (2, .int l2), (3, .int l3), (4, .int l4)] [] m o (k34 l0 l1 l2 l3 l4 m o)) (k46 : Nat → Int32 → Int32 → Int32 → Int32 → Int32 → Mm → Prop → Int32 × Mm × Prop) (hk46 : ∀ (l0 : Nat) (l1 : Int32) (l2 : Int32) (l3 : Int32) (l4 : Int32) (l5 : Int32) (m : Mm) (o : Prop), Mh wI l E mi_X12_eaten c0 s0 46 [(0, .ref l0), (1, .int l1), (2, .int l2), (3, .int l3), (4, .int l4), (5, .int l5)] [] m o (k46 l0 l1 l2 l3 l4 l5 m o)) (l0 : Nat) (l1 : Int32) (l2 : Int32) (l4 : Int32) (l5 : Int32) (y0 : Int32) (m : Mm) (o : Prop) : Mh wI l E mi_X12_eaten c0 s0 78 [(0, .ref l0), (1, .int l1), (2, .int l2), (4, .int l4), (5, .int l5)] [.int y0] m o (f_X12_eaten_78 k34 k46 l0 l1 l2 l4 l5 y0 m o) := by
  refine Mh_aload_n 0 rfl dX12_eaten_78 ?_
  refine Mh_gR fd_11_21 fl_RX12_61 dX12_eaten_79 ?_
  refine Mh_bipush (v := 16) dX12_eaten_82 (by decide) ?_
  refine Mh_iload 3 rfl dX12_eaten_84 ?_
  refine Mh_imul dX12_eaten_86 ?_
  refine Mh_iload 4 rfl dX12_eaten_87 ?_
  refine Mh_iadd dX12_eaten_89 ?_
  refine Mh_ial dX12_eaten_90 ?_
  refine Mh_goto (tgt := 95) dX12_eaten_91 (by decide) ?_
  exact t_X12_eaten_95 l E c0 s0 k34 hk34 k46 hk46 _ _ _ _ _ _ _ _ _
def f_X12_eaten_94 (k34 : Nat → Int32 → Int32 → Int32 → Int32 → Mm → Prop → Int32 × Mm × Prop) (k46 : Nat → Int32 → Int32 → Int32 → Int32 → Int32 → Mm → Prop → Int32 × Mm × Prop) (l0 : Nat) (l1 : Int32) (l2 : Int32) (l4 : Int32) (l5 : Int32) (y0 : Int32) (m : Mm) (o : Prop) : Int32 × Mm × Prop := f_X12_eaten_95 k34 k46 l0 l1 l2 l4 l5 (0 : Int32) y0 m o
set_option maxRecDepth 10000 in
theorem t_X12_eaten_94 (l : Launch) (E : En) (c0 s0 : Nat) (k34 : Nat → Int32 → Int32 → Int32 → Int32 → Mm → Prop → Int32 × Mm × Prop) (hk34 : ∀ (l0 : Nat) (l1 : Int32) (l2 : Int32) (l3 : Int32) (l4 : Int32) (m : Mm) (o : Prop), Mh wI l E mi_X12_eaten c0 s0 34 [(0, .ref l0), (1, .int l1), (2, .int l2), (3, .int l3), (4, .int l4)] [] m o (k34 l0 l1 l2 l3 l4 m o)) (k46 : Nat → Int32 → Int32 → Int32 → Int32 → Int32 → Mm → Prop → Int32 × Mm × Prop) (hk46 : ∀ (l0 : Nat) (l1 : Int32) (l2 : Int32) (l3 : Int32) (l4 : Int32) (l5 : Int32) (m : Mm) (o : Prop), Mh wI l E mi_X12_eaten c0 s0 46 [(0, .ref l0), (1, .int l1), (2, .int l2), (3, .int l3), (4, .int l4), (5, .int l5)] [] m o (k46 l0 l1 l2 l3 l4 l5 m o)) (l0 : Nat) (l1 : Int32) (l2 : Int32) (l4 : Int32) (l5 : Int32) (y0 : Int32) (m : Mm) (o : Prop) : Mh wI l E mi_X12_eaten c0 s0 94 [(0, .ref l0), (1, .int l1), (2, .int l2), (4, .int l4), (5, .int l5)] [.int y0] m o (f_X12_eaten_94 k34 k46 l0 l1 l2 l4 l5 y0 m o) := by
  refine Mh_iconst (v := 0) dX12_eaten_94 (by decide) ?_
  exact t_X12_eaten_95 l E c0 s0 k34 hk34 k46 hk46 _ _ _ _ _ _ _ _ _
def f_X12_eaten_67 (k34 : Nat → Int32 → Int32 → Int32 → Int32 → Mm → Prop → Int32 × Mm × Prop) (k46 : Nat → Int32 → Int32 → Int32 → Int32 → Int32 → Mm → Prop → Int32 × Mm × Prop) (l0 : Nat) (l1 : Int32) (l2 : Int32) (l4 : Int32) (l5 : Int32) (y0 : Int32) (m : Mm) (o : Prop) : Int32 × Mm × Prop := if l2 = (-1 : Int32) then (f_X12_eaten_78 k34 k46 l0 l1 l2 l4 l5 y0 m o) else (if l2 = l5 then (f_X12_eaten_78 k34 k46 l0 l1 l2 l4 l5 y0 m o) else (f_X12_eaten_94 k34 k46 l0 l1 l2 l4 l5 y0 m o))
set_option maxRecDepth 10000 in
theorem t_X12_eaten_67 (l : Launch) (E : En) (c0 s0 : Nat) (k34 : Nat → Int32 → Int32 → Int32 → Int32 → Mm → Prop → Int32 × Mm × Prop) (hk34 : ∀ (l0 : Nat) (l1 : Int32) (l2 : Int32) (l3 : Int32) (l4 : Int32) (m : Mm) (o : Prop), Mh wI l E mi_X12_eaten c0 s0 34 [(0, .ref l0), (1, .int l1), (2, .int l2), (3, .int l3), (4, .int l4)] [] m o (k34 l0 l1 l2 l3 l4 m o)) (k46 : Nat → Int32 → Int32 → Int32 → Int32 → Int32 → Mm → Prop → Int32 × Mm × Prop) (hk46 : ∀ (l0 : Nat) (l1 : Int32) (l2 : Int32) (l3 : Int32) (l4 : Int32) (l5 : Int32) (m : Mm) (o : Prop), Mh wI l E mi_X12_eaten c0 s0 46 [(0, .ref l0), (1, .int l1), (2, .int l2), (3, .int l3), (4, .int l4), (5, .int l5)] [] m o (k46 l0 l1 l2 l3 l4 l5 m o)) (l0 : Nat) (l1 : Int32) (l2 : Int32) (l4 : Int32) (l5 : Int32) (y0 : Int32) (m : Mm) (o : Prop) : Mh wI l E mi_X12_eaten c0 s0 67 [(0, .ref l0), (1, .int l1), (2, .int l2), (4, .int l4), (5, .int l5)] [.int y0] m o (f_X12_eaten_67 k34 k46 l0 l1 l2 l4 l5 y0 m o) := by
  refine Mh_iload_n 2 rfl dX12_eaten_67 ?_
  refine Mh_iconst (v := (-1)) dX12_eaten_68 (by decide) ?_
  refine Mh_icmp_eq (tgt := 78) dX12_eaten_69 (by decide) rfl (fun _ => ?_) (fun _ => ?_)
  · exact t_X12_eaten_78 l E c0 s0 k34 hk34 k46 hk46 _ _ _ _ _ _ _ _
  · refine Mh_iload_n 2 rfl dX12_eaten_72 ?_
    refine Mh_iload 4 rfl dX12_eaten_73 ?_
    refine Mh_icmp_ne (tgt := 94) dX12_eaten_75 (by decide) rfl (fun _ => ?_) (fun _ => ?_)
    · exact t_X12_eaten_94 l E c0 s0 k34 hk34 k46 hk46 _ _ _ _ _ _ _ _
    · exact t_X12_eaten_78 l E c0 s0 k34 hk34 k46 hk46 _ _ _ _ _ _ _ _
def f_X12_eaten_46b (k34 : Nat → Int32 → Int32 → Int32 → Int32 → Mm → Prop → Int32 × Mm × Prop) (k46 : Nat → Int32 → Int32 → Int32 → Int32 → Int32 → Mm → Prop → Int32 × Mm × Prop) (l0 : Nat) (l1 : Int32) (l2 : Int32) (l3 : Int32) (l4 : Int32) (l5 : Int32) (m : Mm) (o : Prop) : Int32 × Mm × Prop := if (gI m l0 3) ≤ l5 then (k34 l0 l1 l2 l3 (l4 + 1) m (o ∧ gT m l0 = 12)) else (if l1 = (-1 : Int32) then (f_X12_eaten_67 k34 k46 l0 l1 l2 l4 l5 l3 m (o ∧ gT m l0 = 12)) else (if l1 = l4 then (f_X12_eaten_67 k34 k46 l0 l1 l2 l4 l5 l3 m (o ∧ gT m l0 = 12)) else (f_X12_eaten_94 k34 k46 l0 l1 l2 l4 l5 l3 m (o ∧ gT m l0 = 12))))
set_option maxRecDepth 10000 in
theorem t_X12_eaten_46b (l : Launch) (E : En) (c0 s0 : Nat) (k34 : Nat → Int32 → Int32 → Int32 → Int32 → Mm → Prop → Int32 × Mm × Prop) (hk34 : ∀ (l0 : Nat) (l1 : Int32) (l2 : Int32) (l3 : Int32) (l4 : Int32) (m : Mm) (o : Prop), Mh wI l E mi_X12_eaten c0 s0 34 [(0, .ref l0), (1, .int l1), (2, .int l2), (3, .int l3), (4, .int l4)] [] m o (k34 l0 l1 l2 l3 l4 m o)) (k46 : Nat → Int32 → Int32 → Int32 → Int32 → Int32 → Mm → Prop → Int32 × Mm × Prop) (hk46 : ∀ (l0 : Nat) (l1 : Int32) (l2 : Int32) (l3 : Int32) (l4 : Int32) (l5 : Int32) (m : Mm) (o : Prop), Mh wI l E mi_X12_eaten c0 s0 46 [(0, .ref l0), (1, .int l1), (2, .int l2), (3, .int l3), (4, .int l4), (5, .int l5)] [] m o (k46 l0 l1 l2 l3 l4 l5 m o)) (l0 : Nat) (l1 : Int32) (l2 : Int32) (l3 : Int32) (l4 : Int32) (l5 : Int32) (m : Mm) (o : Prop) : Mh wI l E mi_X12_eaten c0 s0 46 [(0, .ref l0), (1, .int l1), (2, .int l2), (3, .int l3), (4, .int l4), (5, .int l5)] [] m o (f_X12_eaten_46b k34 k46 l0 l1 l2 l3 l4 l5 m o) := by
  refine Mh_iload 5 rfl dX12_eaten_46 ?_
  refine Mh_aload_n 0 rfl dX12_eaten_48 ?_
  refine Mh_gI fd_11_3 fl_RX12_199 dX12_eaten_49 ?_
  refine Mh_icmp_ge (tgt := 103) dX12_eaten_52 (by decide) rfl (fun _ => ?_) (fun _ => ?_)
  · refine Mh_iinc (v := l4 + 1) (lv' := [(4, .int (l4 + 1)), (0, .ref l0), (1, .int l1), (2, .int l2), (3, .int l3), (5, .int l5)]) 4 dX12_eaten_103 rfl rfl (Nat.le_of_ble_eq_true rfl) rfl ?_
    refine Mh_goto (tgt := 34) dX12_eaten_106 (by decide) ?_
    refine Mh_sub (lv' := [(0, .ref l0), (1, .int l1), (2, .int l2), (3, .int l3), (4, .int (l4 + 1))]) [1, 2, 3, 4, 0] rfl ?_
    exact hk34 _ _ _ _ _ _ _
  · refine Mh_iload_n 3 rfl dX12_eaten_55 ?_
    refine Mh_iload_n 1 rfl dX12_eaten_56 ?_
    refine Mh_iconst (v := (-1)) dX12_eaten_57 (by decide) ?_
    refine Mh_icmp_eq (tgt := 67) dX12_eaten_58 (by decide) rfl (fun _ => ?_) (fun _ => ?_)
    · refine Mh_sub (lv' := [(0, .ref l0), (1, .int l1), (2, .int l2), (4, .int l4), (5, .int l5)]) [0, 1, 2, 4, 5] rfl ?_
      exact t_X12_eaten_67 l E c0 s0 k34 hk34 k46 hk46 _ _ _ _ _ _ _ _
    · refine Mh_iload_n 1 rfl dX12_eaten_61 ?_
      refine Mh_iload 4 rfl dX12_eaten_62 ?_
      refine Mh_icmp_ne (tgt := 94) dX12_eaten_64 (by decide) rfl (fun _ => ?_) (fun _ => ?_)
      · refine Mh_sub (lv' := [(0, .ref l0), (1, .int l1), (2, .int l2), (4, .int l4), (5, .int l5)]) [0, 1, 2, 4, 5] rfl ?_
        exact t_X12_eaten_94 l E c0 s0 k34 hk34 k46 hk46 _ _ _ _ _ _ _ _
      · refine Mh_sub (lv' := [(0, .ref l0), (1, .int l1), (2, .int l2), (4, .int l4), (5, .int l5)]) [0, 1, 2, 4, 5] rfl ?_
        exact t_X12_eaten_67 l E c0 s0 k34 hk34 k46 hk46 _ _ _ _ _ _ _ _
def f_X12_eaten_46 (k34 : Nat → Int32 → Int32 → Int32 → Int32 → Mm → Prop → Int32 × Mm × Prop) : Nat → Nat → Int32 → Int32 → Int32 → Int32 → Int32 → Mm → Prop → Int32 × Mm × Prop
  | 0, _, _, _, _, _, _, m, _ => (0, m, False)
  | n + 1, l0, l1, l2, l3, l4, l5, m, o => f_X12_eaten_46b k34 (f_X12_eaten_46 k34 n) l0 l1 l2 l3 l4 l5 m o
theorem t_X12_eaten_46 (l : Launch) (E : En) (c0 s0 : Nat) (k34 : Nat → Int32 → Int32 → Int32 → Int32 → Mm → Prop → Int32 × Mm × Prop) (hk34 : ∀ (l0 : Nat) (l1 : Int32) (l2 : Int32) (l3 : Int32) (l4 : Int32) (m : Mm) (o : Prop), Mh wI l E mi_X12_eaten c0 s0 34 [(0, .ref l0), (1, .int l1), (2, .int l2), (3, .int l3), (4, .int l4)] [] m o (k34 l0 l1 l2 l3 l4 m o)) : ∀ (n : Nat) (l0 : Nat) (l1 : Int32) (l2 : Int32) (l3 : Int32) (l4 : Int32) (l5 : Int32) (m : Mm) (o : Prop), Mh wI l E mi_X12_eaten c0 s0 46 [(0, .ref l0), (1, .int l1), (2, .int l2), (3, .int l3), (4, .int l4), (5, .int l5)] [] m o (f_X12_eaten_46 k34 n l0 l1 l2 l3 l4 l5 m o)
  | 0, _, _, _, _, _, _, _, _ => Mh_out rfl
  | n + 1, l0, l1, l2, l3, l4, l5, m, o => t_X12_eaten_46b l E c0 s0 k34 hk34 (f_X12_eaten_46 k34 n) (t_X12_eaten_46 l E c0 s0 k34 hk34 n) l0 l1 l2 l3 l4 l5 m o
def f_X12_eaten_34b (k34 : Nat → Int32 → Int32 → Int32 → Int32 → Mm → Prop → Int32 × Mm × Prop) (l0 : Nat) (l1 : Int32) (l2 : Int32) (l3 : Int32) (l4 : Int32) (m : Mm) (o : Prop) : Int32 × Mm × Prop := if (gI m l0 2) ≤ l4 then (l3, m, (o ∧ gT m l0 = 12)) else (f_X12_eaten_46 k34 1000 l0 l1 l2 l3 l4 (0 : Int32) m (o ∧ gT m l0 = 12))
set_option maxRecDepth 10000 in
theorem t_X12_eaten_34b (l : Launch) (E : En) (c0 s0 : Nat) (k34 : Nat → Int32 → Int32 → Int32 → Int32 → Mm → Prop → Int32 × Mm × Prop) (hk34 : ∀ (l0 : Nat) (l1 : Int32) (l2 : Int32) (l3 : Int32) (l4 : Int32) (m : Mm) (o : Prop), Mh wI l E mi_X12_eaten c0 s0 34 [(0, .ref l0), (1, .int l1), (2, .int l2), (3, .int l3), (4, .int l4)] [] m o (k34 l0 l1 l2 l3 l4 m o)) (l0 : Nat) (l1 : Int32) (l2 : Int32) (l3 : Int32) (l4 : Int32) (m : Mm) (o : Prop) : Mh wI l E mi_X12_eaten c0 s0 34 [(0, .ref l0), (1, .int l1), (2, .int l2), (3, .int l3), (4, .int l4)] [] m o (f_X12_eaten_34b k34 l0 l1 l2 l3 l4 m o) := by
  refine Mh_iload 4 rfl dX12_eaten_34 ?_
  refine Mh_aload_n 0 rfl dX12_eaten_36 ?_
  refine Mh_gI fd_11_2 fl_RX12_192 dX12_eaten_37 ?_
  refine Mh_icmp_ge (tgt := 109) dX12_eaten_40 (by decide) rfl (fun _ => ?_) (fun _ => ?_)
  · refine Mh_iload_n 3 rfl dX12_eaten_109 ?_
    exact Mh_ret dX12_eaten_110 rfl (fun _ => rfl) rfl
  · refine Mh_iconst (v := 0) dX12_eaten_43 (by decide) ?_
    refine Mh_istore (lv' := [(5, .int (0 : Int32)), (0, .ref l0), (1, .int l1), (2, .int l2), (3, .int l3), (4, .int l4)]) dX12_eaten_44 (Nat.le_of_ble_eq_true rfl) rfl ?_
    refine Mh_sub (lv' := [(0, .ref l0), (1, .int l1), (2, .int l2), (3, .int l3), (4, .int l4), (5, .int (0 : Int32))]) [1, 2, 3, 4, 5, 0] rfl ?_
    exact t_X12_eaten_46 l E c0 s0 k34 hk34 _ _ _ _ _ _ _ _ _
def f_X12_eaten_34 : Nat → Nat → Int32 → Int32 → Int32 → Int32 → Mm → Prop → Int32 × Mm × Prop
  | 0, _, _, _, _, _, m, _ => (0, m, False)
  | n + 1, l0, l1, l2, l3, l4, m, o => f_X12_eaten_34b (f_X12_eaten_34 n) l0 l1 l2 l3 l4 m o
theorem t_X12_eaten_34 (l : Launch) (E : En) (c0 s0 : Nat) : ∀ (n : Nat) (l0 : Nat) (l1 : Int32) (l2 : Int32) (l3 : Int32) (l4 : Int32) (m : Mm) (o : Prop), Mh wI l E mi_X12_eaten c0 s0 34 [(0, .ref l0), (1, .int l1), (2, .int l2), (3, .int l3), (4, .int l4)] [] m o (f_X12_eaten_34 n l0 l1 l2 l3 l4 m o)
  | 0, _, _, _, _, _, _, _ => Mh_out rfl
  | n + 1, l0, l1, l2, l3, l4, m, o => t_X12_eaten_34b l E c0 s0 (f_X12_eaten_34 n) (t_X12_eaten_34 l E c0 s0 n) l0 l1 l2 l3 l4 m o
def f_X12_eaten_29 (l0 : Nat) (l1 : Int32) (l2 : Int32) (m : Mm) (o : Prop) : Int32 × Mm × Prop := f_X12_eaten_34 1000 l0 l1 l2 (0 : Int32) (0 : Int32) m o
set_option maxRecDepth 10000 in
theorem t_X12_eaten_29 (l : Launch) (E : En) (c0 s0 : Nat) (l0 : Nat) (l1 : Int32) (l2 : Int32) (m : Mm) (o : Prop) : Mh wI l E mi_X12_eaten c0 s0 29 [(0, .ref l0), (1, .int l1), (2, .int l2)] [] m o (f_X12_eaten_29 l0 l1 l2 m o) := by
  refine Mh_iconst (v := 0) dX12_eaten_29 (by decide) ?_
  refine Mh_istore_n (lv' := [(3, .int (0 : Int32)), (0, .ref l0), (1, .int l1), (2, .int l2)]) dX12_eaten_30 (Nat.le_of_ble_eq_true rfl) rfl ?_
  refine Mh_iconst (v := 0) dX12_eaten_31 (by decide) ?_
  refine Mh_istore (lv' := [(4, .int (0 : Int32)), (3, .int (0 : Int32)), (0, .ref l0), (1, .int l1), (2, .int l2)]) dX12_eaten_32 (Nat.le_of_ble_eq_true rfl) rfl ?_
  refine Mh_sub (lv' := [(0, .ref l0), (1, .int l1), (2, .int l2), (3, .int (0 : Int32)), (4, .int (0 : Int32))]) [2, 3, 4, 1, 0] rfl ?_
  exact t_X12_eaten_34 l E c0 s0 _ _ _ _ _ _ _ _
def f_X12_eaten_23 (l0 : Nat) (l1 : Int32) (l2 : Int32) (y0 : Int32) (m : Mm) (o : Prop) : Int32 × Mm × Prop := if y0 = 0 then (f_X12_eaten_26  m o) else (f_X12_eaten_29 l0 l1 l2 m o)
set_option maxRecDepth 10000 in
theorem t_X12_eaten_23 (l : Launch) (E : En) (c0 s0 : Nat) (l0 : Nat) (l1 : Int32) (l2 : Int32) (y0 : Int32) (m : Mm) (o : Prop) : Mh wI l E mi_X12_eaten c0 s0 23 [(0, .ref l0), (1, .int l1), (2, .int l2)] [.int y0] m o (f_X12_eaten_23 l0 l1 l2 y0 m o) := by
  refine Mh_if_ne (tgt := 29) dX12_eaten_23 (by decide) rfl (fun _ => ?_) (fun _ => ?_)
  · exact t_X12_eaten_29 l E c0 s0 _ _ _ _ _
  · refine Mh_sub (lv' := []) [] rfl ?_
    exact t_X12_eaten_26 l E c0 s0  _ _
def f_X12_eaten_13 (l0 : Nat) (l1 : Int32) (l2 : Int32) (m : Mm) (o : Prop) : Int32 × Mm × Prop := if l2 = (-1 : Int32) then (f_X12_eaten_29 l0 l1 l2 m o) else (bnd (F_X12_isCow l0 l2 m (o ∧ gT m l0 = 12)) (fun v1 m1 o1 => f_X12_eaten_23 l0 l1 l2 v1 m1 o1))
set_option maxRecDepth 10000 in
theorem t_X12_eaten_13 (l : Launch) (E : En) (c0 s0 : Nat) (l0 : Nat) (l1 : Int32) (l2 : Int32) (m : Mm) (o : Prop) : Mh wI l E mi_X12_eaten c0 s0 13 [(0, .ref l0), (1, .int l1), (2, .int l2)] [] m o (f_X12_eaten_13 l0 l1 l2 m o) := by
  refine Mh_iload_n 2 rfl dX12_eaten_13 ?_
  refine Mh_iconst (v := (-1)) dX12_eaten_14 (by decide) ?_
  refine Mh_icmp_eq (tgt := 29) dX12_eaten_15 (by decide) rfl (fun _ => ?_) (fun _ => ?_)
  · exact t_X12_eaten_29 l E c0 s0 _ _ _ _ _
  · refine Mh_aload_n 0 rfl dX12_eaten_18 ?_
    refine Mh_iload_n 2 rfl dX12_eaten_19 ?_
    refine Mh_cvI (N := mi_X12_isCow) (q := l0) (ci := 11) (as := [.int l2]) (st := []) (id) cg_yX12_isCow (by decide) rfl rfl ml_RX12_217 iv_yX12_isCow pd_yX12_isCow rfl (by decide) (Nat.le_of_ble_eq_true rfl) rfl dX12_eaten_20 (T_X12_isCow l E _ _ _ _) rfl ?_
    exact t_X12_eaten_23 l E c0 s0 _ _ _ _ _ _
def f_X12_eaten_10 (l0 : Nat) (l1 : Int32) (l2 : Int32) (y0 : Int32) (m : Mm) (o : Prop) : Int32 × Mm × Prop := if y0 = 0 then (f_X12_eaten_26  m o) else (f_X12_eaten_13 l0 l1 l2 m o)
set_option maxRecDepth 10000 in
theorem t_X12_eaten_10 (l : Launch) (E : En) (c0 s0 : Nat) (l0 : Nat) (l1 : Int32) (l2 : Int32) (y0 : Int32) (m : Mm) (o : Prop) : Mh wI l E mi_X12_eaten c0 s0 10 [(0, .ref l0), (1, .int l1), (2, .int l2)] [.int y0] m o (f_X12_eaten_10 l0 l1 l2 y0 m o) := by
  refine Mh_if_eq (tgt := 26) dX12_eaten_10 (by decide) rfl (fun _ => ?_) (fun _ => ?_)
  · refine Mh_sub (lv' := []) [] rfl ?_
    exact t_X12_eaten_26 l E c0 s0  _ _
  · exact t_X12_eaten_13 l E c0 s0 _ _ _ _ _
def f_X12_eaten_0 (l0 : Nat) (l1 : Int32) (l2 : Int32) (m : Mm) (o : Prop) : Int32 × Mm × Prop := if l1 = (-1 : Int32) then (f_X12_eaten_13 l0 l1 l2 m o) else (bnd (F_X12_isStack l0 l1 m (o ∧ gT m l0 = 12)) (fun v1 m1 o1 => f_X12_eaten_10 l0 l1 l2 v1 m1 o1))
set_option maxRecDepth 10000 in
theorem t_X12_eaten_0 (l : Launch) (E : En) (c0 s0 : Nat) (l0 : Nat) (l1 : Int32) (l2 : Int32) (m : Mm) (o : Prop) : Mh wI l E mi_X12_eaten c0 s0 0 [(0, .ref l0), (1, .int l1), (2, .int l2)] [] m o (f_X12_eaten_0 l0 l1 l2 m o) := by
  refine Mh_iload_n 1 rfl dX12_eaten_0 ?_
  refine Mh_iconst (v := (-1)) dX12_eaten_1 (by decide) ?_
  refine Mh_icmp_eq (tgt := 13) dX12_eaten_2 (by decide) rfl (fun _ => ?_) (fun _ => ?_)
  · exact t_X12_eaten_13 l E c0 s0 _ _ _ _ _
  · refine Mh_aload_n 0 rfl dX12_eaten_5 ?_
    refine Mh_iload_n 1 rfl dX12_eaten_6 ?_
    refine Mh_cvI (N := mi_X12_isStack) (q := l0) (ci := 11) (as := [.int l1]) (st := []) (id) cg_yX12_isStack (by decide) rfl rfl ml_RX12_195 iv_yX12_isStack pd_yX12_isStack rfl (by decide) (Nat.le_of_ble_eq_true rfl) rfl dX12_eaten_7 (T_X12_isStack l E _ _ _ _) rfl ?_
    exact t_X12_eaten_10 l E c0 s0 _ _ _ _ _ _
def F_X12_eaten (a0 : Nat) (a1 : Int32) (a2 : Int32) (m : Mm) (o : Prop) : Int32 × Mm × Prop := f_X12_eaten_0 a0 a1 a2 m o
theorem T_X12_eaten (l : Launch) (E : En) (a0 : Nat) (a1 : Int32) (a2 : Int32) (m : Mm) (o : Prop) : Mt wI l E yX12_eaten mi_X12_eaten [.ref a0, .int a1, .int a2] m o (F_X12_eaten a0 a1 a2 m o) :=
  Mt_I (by decide) rfl rfl rfl (Nat.le_of_ble_eq_true rfl) rfl (.inl rfl) (t_X12_eaten_0 l E _ _ _ _ _ _ _)
def f_X12_push_30 (k3 : Nat → Int32 → Int32 → Mm → Prop → Unit × Mm × Prop) (l0 : Nat) (l1 : Int32) (l2 : Int32) (m : Mm) (o : Prop) : Unit × Mm × Prop := k3 l0 l1 (l2 + (-8)) m o
set_option maxRecDepth 10000 in
theorem t_X12_push_30 (l : Launch) (E : En) (c0 s0 : Nat) (k3 : Nat → Int32 → Int32 → Mm → Prop → Unit × Mm × Prop) (hk3 : ∀ (l0 : Nat) (l1 : Int32) (l2 : Int32) (m : Mm) (o : Prop), Mh wU l E mi_X12_push c0 s0 3 [(0, .ref l0), (1, .int l1), (2, .int l2)] [] m o (k3 l0 l1 l2 m o)) (l0 : Nat) (l1 : Int32) (l2 : Int32) (m : Mm) (o : Prop) : Mh wU l E mi_X12_push c0 s0 30 [(0, .ref l0), (1, .int l1), (2, .int l2)] [] m o (f_X12_push_30 k3 l0 l1 l2 m o) := by
  refine Mh_iinc (v := l2 + (-8)) (lv' := [(2, .int (l2 + (-8))), (0, .ref l0), (1, .int l1)]) 2 dX12_push_30 rfl rfl (Nat.le_of_ble_eq_true rfl) rfl ?_
  refine Mh_goto (tgt := 3) dX12_push_33 (by decide) ?_
  refine Mh_sub (lv' := [(0, .ref l0), (1, .int l1), (2, .int (l2 + (-8)))]) [1, 2, 0] rfl ?_
  exact hk3 _ _ _ _ _
def f_X12_push_20 (k3 : Nat → Int32 → Int32 → Mm → Prop → Unit × Mm × Prop) (l0 : Nat) (l1 : Int32) (l2 : Int32) (m : Mm) (o : Prop) : Unit × Mm × Prop := f_X12_push_30 k3 l0 l1 l2 (sI m l0 1 ((gI m l0 1) + (1 : Int32))) (o ∧ gT m l0 = 12)
set_option maxRecDepth 10000 in
theorem t_X12_push_20 (l : Launch) (E : En) (c0 s0 : Nat) (k3 : Nat → Int32 → Int32 → Mm → Prop → Unit × Mm × Prop) (hk3 : ∀ (l0 : Nat) (l1 : Int32) (l2 : Int32) (m : Mm) (o : Prop), Mh wU l E mi_X12_push c0 s0 3 [(0, .ref l0), (1, .int l1), (2, .int l2)] [] m o (k3 l0 l1 l2 m o)) (l0 : Nat) (l1 : Int32) (l2 : Int32) (m : Mm) (o : Prop) : Mh wU l E mi_X12_push c0 s0 20 [(0, .ref l0), (1, .int l1), (2, .int l2)] [] m o (f_X12_push_20 k3 l0 l1 l2 m o) := by
  refine Mh_aload_n 0 rfl dX12_push_20 ?_
  refine Mh_dup dX12_push_21 rfl ?_
  refine Mh_gI fd_11_1 fl_RX12_228 dX12_push_22 ?_
  refine Mh_iconst (v := 1) dX12_push_25 (by decide) ?_
  refine Mh_iadd dX12_push_26 ?_
  refine Mh_pI fd_11_1 ft_11 rfl fl_RX12_228 rfl dX12_push_27 ?_
  refine Mh_ok (fun h => h.2) ?_
  exact t_X12_push_30 l E c0 s0 k3 hk3 _ _ _ _ _
def f_X12_push_3b (k3 : Nat → Int32 → Int32 → Mm → Prop → Unit × Mm × Prop) (l0 : Nat) (l1 : Int32) (l2 : Int32) (m : Mm) (o : Prop) : Unit × Mm × Prop := if l2 < 0 then ((), m, o) else (f_X12_push_20 k3 l0 l1 l2 (sI m (gR m l0 0) (ix (gI m l0 1)) (Int8.toInt32 (Int32.toInt8 (Int8.toInt32 (Int32.toInt8 (l1 >>> (l2 &&& 31))))))) (((o ∧ (gT m l0 = 12 ∧ gR m l0 0 ≠ 0)) ∧ gT m l0 = 12) ∧ (gT m (gR m l0 0) = 23 ∧ vp_in (gI m l0 1) (gN m (gR m l0 0)))))
set_option maxRecDepth 10000 in
theorem t_X12_push_3b (l : Launch) (E : En) (c0 s0 : Nat) (k3 : Nat → Int32 → Int32 → Mm → Prop → Unit × Mm × Prop) (hk3 : ∀ (l0 : Nat) (l1 : Int32) (l2 : Int32) (m : Mm) (o : Prop), Mh wU l E mi_X12_push c0 s0 3 [(0, .ref l0), (1, .int l1), (2, .int l2)] [] m o (k3 l0 l1 l2 m o)) (l0 : Nat) (l1 : Int32) (l2 : Int32) (m : Mm) (o : Prop) : Mh wU l E mi_X12_push c0 s0 3 [(0, .ref l0), (1, .int l1), (2, .int l2)] [] m o (f_X12_push_3b k3 l0 l1 l2 m o) := by
  refine Mh_iload_n 2 rfl dX12_push_3 ?_
  refine Mh_if_lt (tgt := 36) dX12_push_4 (by decide) rfl (fun _ => ?_) (fun _ => ?_)
  · exact Mh_ret dX12_push_36 rfl (fun _ => trivial) rfl
  · refine Mh_aload_n 0 rfl dX12_push_7 ?_
    refine Mh_gR fd_11_0 fl_RX12_7 dX12_push_8 ?_
    refine Mh_aload_n 0 rfl dX12_push_11 ?_
    refine Mh_gI fd_11_1 fl_RX12_228 dX12_push_12 ?_
    refine Mh_iload_n 1 rfl dX12_push_15 ?_
    refine Mh_iload_n 2 rfl dX12_push_16 ?_
    refine Mh_ishr dX12_push_17 ?_
    refine Mh_i2b dX12_push_18 ?_
    refine Mh_bas dX12_push_19 ?_
    exact t_X12_push_20 l E c0 s0 k3 hk3 _ _ _ _ _
def f_X12_push_3 : Nat → Nat → Int32 → Int32 → Mm → Prop → Unit × Mm × Prop
  | 0, _, _, _, m, _ => ((), m, False)
  | n + 1, l0, l1, l2, m, o => f_X12_push_3b (f_X12_push_3 n) l0 l1 l2 m o
theorem t_X12_push_3 (l : Launch) (E : En) (c0 s0 : Nat) : ∀ (n : Nat) (l0 : Nat) (l1 : Int32) (l2 : Int32) (m : Mm) (o : Prop), Mh wU l E mi_X12_push c0 s0 3 [(0, .ref l0), (1, .int l1), (2, .int l2)] [] m o (f_X12_push_3 n l0 l1 l2 m o)
  | 0, _, _, _, _, _ => Mh_out rfl
  | n + 1, l0, l1, l2, m, o => t_X12_push_3b l E c0 s0 (f_X12_push_3 n) (t_X12_push_3 l E c0 s0 n) l0 l1 l2 m o
def f_X12_push_0 (l0 : Nat) (l1 : Int32) (m : Mm) (o : Prop) : Unit × Mm × Prop := f_X12_push_3 1000 l0 l1 (24 : Int32) m o
set_option maxRecDepth 10000 in
theorem t_X12_push_0 (l : Launch) (E : En) (c0 s0 : Nat) (l0 : Nat) (l1 : Int32) (m : Mm) (o : Prop) : Mh wU l E mi_X12_push c0 s0 0 [(0, .ref l0), (1, .int l1)] [] m o (f_X12_push_0 l0 l1 m o) := by
  refine Mh_bipush (v := 24) dX12_push_0 (by decide) ?_
  refine Mh_istore_n (lv' := [(2, .int (24 : Int32)), (0, .ref l0), (1, .int l1)]) dX12_push_2 (Nat.le_of_ble_eq_true rfl) rfl ?_
  refine Mh_sub (lv' := [(0, .ref l0), (1, .int l1), (2, .int (24 : Int32))]) [1, 2, 0] rfl ?_
  exact t_X12_push_3 l E c0 s0 _ _ _ _ _ _
def F_X12_push (a0 : Nat) (a1 : Int32) (m : Mm) (o : Prop) : Unit × Mm × Prop := f_X12_push_0 a0 a1 m o
theorem T_X12_push (l : Launch) (E : En) (a0 : Nat) (a1 : Int32) (m : Mm) (o : Prop) : Mt wU l E yX12_push mi_X12_push [.ref a0, .int a1] m o (F_X12_push a0 a1 m o) :=
  Mt_U (by decide) rfl (fun h => by cases h) rfl (Nat.le_of_ble_eq_true rfl) rfl (t_X12_push_0 l E _ _ _ _ _ _)
def f_X12_feed_42 (l0 : Nat) (m : Mm) (o : Prop) : Int32 × Mm × Prop := (gI m l0 1, m, (o ∧ gT m l0 = 12))
set_option maxRecDepth 10000 in
theorem t_X12_feed_42 (l : Launch) (E : En) (c0 s0 : Nat) (l0 : Nat) (m : Mm) (o : Prop) : Mh wI l E mi_X12_feed c0 s0 42 [(0, .ref l0)] [] m o (f_X12_feed_42 l0 m o) := by
  refine Mh_aload_n 0 rfl dX12_feed_42 ?_
  refine Mh_gI fd_11_1 fl_RX12_228 dX12_feed_43 ?_
  exact Mh_ret dX12_feed_46 rfl (fun _ => rfl) rfl
def f_X12_feed_36 (l0 : Nat) (l5 : Int32) (m : Mm) (o : Prop) : Int32 × Mm × Prop := bnd (F_X12_push l0 l5 m (o ∧ gT m l0 = 12)) (fun _ m1 o1 => f_X12_feed_42 l0 m1 o1)
set_option maxRecDepth 10000 in
theorem t_X12_feed_36 (l : Launch) (E : En) (c0 s0 : Nat) (l0 : Nat) (l5 : Int32) (m : Mm) (o : Prop) : Mh wI l E mi_X12_feed c0 s0 36 [(0, .ref l0), (5, .int l5)] [] m o (f_X12_feed_36 l0 l5 m o) := by
  refine Mh_aload_n 0 rfl dX12_feed_36 ?_
  refine Mh_iload 1 rfl dX12_feed_37 ?_
  refine Mh_cvU (N := mi_X12_push) (q := l0) (ci := 11) (as := [.int l5]) (st := []) (id) cg_yX12_push (by decide) rfl rfl ml_RX12_231 iv_yX12_push pd_yX12_push rfl (by decide) (Nat.le_of_ble_eq_true rfl) rfl dX12_feed_39 (T_X12_push l E _ _ _ _) rfl ?_
  refine Mh_sub (lv' := [(0, .ref l0)]) [0] rfl ?_
  exact t_X12_feed_42 l E c0 s0 _ _ _
def f_X12_feed_30 (l0 : Nat) (l4 : Int32) (l5 : Int32) (m : Mm) (o : Prop) : Int32 × Mm × Prop := bnd (F_X12_push l0 l4 m (o ∧ gT m l0 = 12)) (fun _ m1 o1 => f_X12_feed_36 l0 l5 m1 o1)
set_option maxRecDepth 10000 in
theorem t_X12_feed_30 (l : Launch) (E : En) (c0 s0 : Nat) (l0 : Nat) (l4 : Int32) (l5 : Int32) (m : Mm) (o : Prop) : Mh wI l E mi_X12_feed c0 s0 30 [(0, .ref l0), (4, .int l4), (5, .int l5)] [] m o (f_X12_feed_30 l0 l4 l5 m o) := by
  refine Mh_aload_n 0 rfl dX12_feed_30 ?_
  refine Mh_iload 1 rfl dX12_feed_31 ?_
  refine Mh_cvU (N := mi_X12_push) (q := l0) (ci := 11) (as := [.int l4]) (st := []) (id) cg_yX12_push (by decide) rfl rfl ml_RX12_231 iv_yX12_push pd_yX12_push rfl (by decide) (Nat.le_of_ble_eq_true rfl) rfl dX12_feed_33 (T_X12_push l E _ _ _ _) rfl ?_
  refine Mh_sub (lv' := [(0, .ref l0), (5, .int l5)]) [0, 2] rfl ?_
  exact t_X12_feed_36 l E c0 s0 _ _ _ _
def f_X12_feed_25 (l0 : Nat) (l3 : Int32) (l4 : Int32) (l5 : Int32) (m : Mm) (o : Prop) : Int32 × Mm × Prop := bnd (F_X12_push l0 l3 m (o ∧ gT m l0 = 12)) (fun _ m1 o1 => f_X12_feed_30 l0 l4 l5 m1 o1)
set_option maxRecDepth 10000 in
theorem t_X12_feed_25 (l : Launch) (E : En) (c0 s0 : Nat) (l0 : Nat) (l3 : Int32) (l4 : Int32) (l5 : Int32) (m : Mm) (o : Prop) : Mh wI l E mi_X12_feed c0 s0 25 [(0, .ref l0), (3, .int l3), (4, .int l4), (5, .int l5)] [] m o (f_X12_feed_25 l0 l3 l4 l5 m o) := by
  refine Mh_aload_n 0 rfl dX12_feed_25 ?_
  refine Mh_iload_n 1 rfl dX12_feed_26 ?_
  refine Mh_cvU (N := mi_X12_push) (q := l0) (ci := 11) (as := [.int l3]) (st := []) (id) cg_yX12_push (by decide) rfl rfl ml_RX12_231 iv_yX12_push pd_yX12_push rfl (by decide) (Nat.le_of_ble_eq_true rfl) rfl dX12_feed_27 (T_X12_push l E _ _ _ _) rfl ?_
  refine Mh_sub (lv' := [(0, .ref l0), (4, .int l4), (5, .int l5)]) [0, 2, 3] rfl ?_
  exact t_X12_feed_30 l E c0 s0 _ _ _ _ _
def f_X12_feed_20 (l0 : Nat) (l2 : Int32) (l3 : Int32) (l4 : Int32) (l5 : Int32) (m : Mm) (o : Prop) : Int32 × Mm × Prop := bnd (F_X12_push l0 l2 m (o ∧ gT m l0 = 12)) (fun _ m1 o1 => f_X12_feed_25 l0 l3 l4 l5 m1 o1)
set_option maxRecDepth 10000 in
theorem t_X12_feed_20 (l : Launch) (E : En) (c0 s0 : Nat) (l0 : Nat) (l2 : Int32) (l3 : Int32) (l4 : Int32) (l5 : Int32) (m : Mm) (o : Prop) : Mh wI l E mi_X12_feed c0 s0 20 [(0, .ref l0), (2, .int l2), (3, .int l3), (4, .int l4), (5, .int l5)] [] m o (f_X12_feed_20 l0 l2 l3 l4 l5 m o) := by
  refine Mh_aload_n 0 rfl dX12_feed_20 ?_
  refine Mh_iload_n 1 rfl dX12_feed_21 ?_
  refine Mh_cvU (N := mi_X12_push) (q := l0) (ci := 11) (as := [.int l2]) (st := []) (id) cg_yX12_push (by decide) rfl rfl ml_RX12_231 iv_yX12_push pd_yX12_push rfl (by decide) (Nat.le_of_ble_eq_true rfl) rfl dX12_feed_22 (T_X12_push l E _ _ _ _) rfl ?_
  refine Mh_sub (lv' := [(0, .ref l0), (3, .int l3), (4, .int l4), (5, .int l5)]) [0, 2, 3, 4] rfl ?_
  exact t_X12_feed_25 l E c0 s0 _ _ _ _ _ _
def f_X12_feed_0 (l0 : Nat) (l1 : Int32) (l2 : Int32) (l3 : Int32) (l4 : Int32) (l5 : Int32) (m : Mm) (o : Prop) : Int32 × Mm × Prop := if ((gI m l0 1) + (20 : Int32)) ≤ (220 : Int32) then (bnd (F_X12_push l0 l1 m (o ∧ gT m l0 = 12)) (fun _ m1 o1 => f_X12_feed_20 l0 l2 l3 l4 l5 m1 o1)) else ((-1 : Int32), m, (o ∧ gT m l0 = 12))
set_option maxRecDepth 10000 in
theorem t_X12_feed_0 (l : Launch) (E : En) (c0 s0 : Nat) (l0 : Nat) (l1 : Int32) (l2 : Int32) (l3 : Int32) (l4 : Int32) (l5 : Int32) (m : Mm) (o : Prop) : Mh wI l E mi_X12_feed c0 s0 0 [(0, .ref l0), (1, .int l1), (2, .int l2), (3, .int l3), (4, .int l4), (5, .int l5)] [] m o (f_X12_feed_0 l0 l1 l2 l3 l4 l5 m o) := by
  refine Mh_aload_n 0 rfl dX12_feed_0 ?_
  refine Mh_gI fd_11_1 fl_RX12_228 dX12_feed_1 ?_
  refine Mh_bipush (v := 20) dX12_feed_4 (by decide) ?_
  refine Mh_iadd dX12_feed_6 ?_
  refine Mh_sipush (v := 220) dX12_feed_7 (by decide) ?_
  refine Mh_icmp_le (tgt := 15) dX12_feed_10 (by decide) rfl (fun _ => ?_) (fun _ => ?_)
  · refine Mh_aload_n 0 rfl dX12_feed_15 ?_
    refine Mh_iload_n 1 rfl dX12_feed_16 ?_
    refine Mh_cvU (N := mi_X12_push) (q := l0) (ci := 11) (as := [.int l1]) (st := []) (fun h => ⟨h, (fun h => h.2) h⟩) cg_yX12_push (by decide) rfl rfl ml_RX12_231 iv_yX12_push pd_yX12_push rfl (by decide) (Nat.le_of_ble_eq_true rfl) rfl dX12_feed_17 (T_X12_push l E _ _ _ _) rfl ?_
    refine Mh_sub (lv' := [(0, .ref l0), (2, .int l2), (3, .int l3), (4, .int l4), (5, .int l5)]) [0, 2, 3, 4, 5] rfl ?_
    exact t_X12_feed_20 l E c0 s0 _ _ _ _ _ _ _
  · refine Mh_iconst (v := (-1)) dX12_feed_13 (by decide) ?_
    exact Mh_ret dX12_feed_14 rfl (fun _ => rfl) rfl
def F_X12_feed (a0 : Nat) (a1 : Int32) (a2 : Int32) (a3 : Int32) (a4 : Int32) (a5 : Int32) (m : Mm) (o : Prop) : Int32 × Mm × Prop := f_X12_feed_0 a0 a1 a2 a3 a4 a5 m o
theorem T_X12_feed (l : Launch) (E : En) (a0 : Nat) (a1 : Int32) (a2 : Int32) (a3 : Int32) (a4 : Int32) (a5 : Int32) (m : Mm) (o : Prop) : Mt wI l E yX12_feed mi_X12_feed [.ref a0, .int a1, .int a2, .int a3, .int a4, .int a5] m o (F_X12_feed a0 a1 a2 a3 a4 a5 m o) :=
  Mt_I (by decide) rfl rfl rfl (Nat.le_of_ble_eq_true rfl) rfl (.inl rfl) (t_X12_feed_0 l E _ _ _ _ _ _ _ _ _ _)
def f_X12_foreseen_89 (k20 : Nat → Int32 → Int32 → Int32 → Int32 → Mm → Prop → Int32 × Mm × Prop) (k54 : Nat → Int32 → Int32 → Int32 → Int32 → Int32 → Int32 → Mm → Prop → Int32 × Mm × Prop) (l0 : Nat) (l1 : Int32) (l2 : Int32) (l3 : Int32) (l4 : Int32) (l6 : Int32) (y1 : Int32) (y0 : Int32) (m : Mm) (o : Prop) : Int32 × Mm × Prop := k54 l0 l1 l2 l3 l4 (y0 + y1) (l6 + 1) m o
set_option maxRecDepth 10000 in
theorem t_X12_foreseen_89 (l : Launch) (E : En) (c0 s0 : Nat) (k20 : Nat → Int32 → Int32 → Int32 → Int32 → Mm → Prop → Int32 × Mm × Prop) (hk20 : ∀ (l0 : Nat) (l1 : Int32) (l2 : Int32) (l3 : Int32) (l4 : Int32) (m : Mm) (o : Prop), Mh wI l E mi_X12_foreseen c0 s0 20 [(0, .ref l0), (1, .int l1), (2, .int l2), (3, .int l3), (4, .int l4)] [] m o (k20 l0 l1 l2 l3 l4 m o)) (k54 : Nat → Int32 → Int32 → Int32 → Int32 → Int32 → Int32 → Mm → Prop → Int32 × Mm × Prop) (hk54 : ∀ (l0 : Nat) (l1 : Int32) (l2 : Int32) (l3 : Int32) (l4 : Int32) (l5 : Int32) (l6 : Int32) (m : Mm) (o : Prop), Mh wI l E mi_X12_foreseen c0 s0 54 [(0, .ref l0), (1, .int l1), (2, .int l2), (3, .int l3), (4, .int l4), (5, .int l5), (6, .int l6)] [] m o (k54 l0 l1 l2 l3 l4 l5 l6 m o)) (l0 : Nat) (l1 : Int32) (l2 : Int32) (l3 : Int32) (l4 : Int32) (l6 : Int32) (y1 : Int32) (y0 : Int32) (m : Mm) (o : Prop) : Mh wI l E mi_X12_foreseen c0 s0 89 [(0, .ref l0), (1, .int l1), (2, .int l2), (3, .int l3), (4, .int l4), (6, .int l6)] [.int y1, .int y0] m o (f_X12_foreseen_89 k20 k54 l0 l1 l2 l3 l4 l6 y1 y0 m o) := by
  refine Mh_iadd dX12_foreseen_89 ?_
  refine Mh_istore (lv' := [(5, .int (y0 + y1)), (0, .ref l0), (1, .int l1), (2, .int l2), (3, .int l3), (4, .int l4), (6, .int l6)]) dX12_foreseen_90 (Nat.le_of_ble_eq_true rfl) rfl ?_
  refine Mh_iinc (v := l6 + 1) (lv' := [(6, .int (l6 + 1)), (5, .int (y0 + y1)), (0, .ref l0), (1, .int l1), (2, .int l2), (3, .int l3), (4, .int l4)]) 6 dX12_foreseen_92 rfl rfl (Nat.le_of_ble_eq_true rfl) rfl ?_
  refine Mh_goto (tgt := 54) dX12_foreseen_95 (by decide) ?_
  refine Mh_sub (lv' := [(0, .ref l0), (1, .int l1), (2, .int l2), (3, .int l3), (4, .int l4), (5, .int (y0 + y1)), (6, .int (l6 + 1))]) [2, 3, 4, 5, 6, 1, 0] rfl ?_
  exact hk54 _ _ _ _ _ _ _ _ _
def f_X12_foreseen_118 (k20 : Nat → Int32 → Int32 → Int32 → Int32 → Mm → Prop → Int32 × Mm × Prop) (l0 : Nat) (l1 : Int32) (l2 : Int32) (l3 : Int32) (l4 : Int32) (m : Mm) (o : Prop) : Int32 × Mm × Prop := k20 l0 l1 l2 l3 (l4 + 1) m o
set_option maxRecDepth 10000 in
theorem t_X12_foreseen_118 (l : Launch) (E : En) (c0 s0 : Nat) (k20 : Nat → Int32 → Int32 → Int32 → Int32 → Mm → Prop → Int32 × Mm × Prop) (hk20 : ∀ (l0 : Nat) (l1 : Int32) (l2 : Int32) (l3 : Int32) (l4 : Int32) (m : Mm) (o : Prop), Mh wI l E mi_X12_foreseen c0 s0 20 [(0, .ref l0), (1, .int l1), (2, .int l2), (3, .int l3), (4, .int l4)] [] m o (k20 l0 l1 l2 l3 l4 m o)) (l0 : Nat) (l1 : Int32) (l2 : Int32) (l3 : Int32) (l4 : Int32) (m : Mm) (o : Prop) : Mh wI l E mi_X12_foreseen c0 s0 118 [(0, .ref l0), (1, .int l1), (2, .int l2), (3, .int l3), (4, .int l4)] [] m o (f_X12_foreseen_118 k20 l0 l1 l2 l3 l4 m o) := by
  refine Mh_iinc (v := l4 + 1) (lv' := [(4, .int (l4 + 1)), (0, .ref l0), (1, .int l1), (2, .int l2), (3, .int l3)]) 4 dX12_foreseen_118 rfl rfl (Nat.le_of_ble_eq_true rfl) rfl ?_
  refine Mh_goto (tgt := 20) dX12_foreseen_121 (by decide) ?_
  refine Mh_sub (lv' := [(0, .ref l0), (1, .int l1), (2, .int l2), (3, .int l3), (4, .int (l4 + 1))]) [1, 2, 3, 4, 0] rfl ?_
  exact hk20 _ _ _ _ _ _ _
def f_X12_foreseen_54b (k20 : Nat → Int32 → Int32 → Int32 → Int32 → Mm → Prop → Int32 × Mm × Prop) (k54 : Nat → Int32 → Int32 → Int32 → Int32 → Int32 → Int32 → Mm → Prop → Int32 × Mm × Prop) (l0 : Nat) (l1 : Int32) (l2 : Int32) (l3 : Int32) (l4 : Int32) (l5 : Int32) (l6 : Int32) (m : Mm) (o : Prop) : Int32 × Mm × Prop := if (5 : Int32) ≤ l6 then (if l5 < l3 then (f_X12_foreseen_118 k20 l0 l1 (gI m (gR m l0 18) (ix l4)) l5 l4 m ((o ∧ (gT m l0 = 12 ∧ gR m l0 18 ≠ 0)) ∧ (gT m (gR m l0 18) = 20 ∧ vp_in l4 (gN m (gR m l0 18))))) else (f_X12_foreseen_118 k20 l0 l1 l2 l3 l4 m o)) else (bnd (F_X12_size ((gI m (gR m l0 19) (ix (((5 : Int32) * l1) + l6))) - (gI m (gR m l0 19) (ix (((5 : Int32) * l4) + l6)))) m (((o ∧ (gT m l0 = 12 ∧ gR m l0 19 ≠ 0)) ∧ (gT m (gR m l0 19) = 20 ∧ vp_in (((5 : Int32) * l1) + l6) (gN m (gR m l0 19)))) ∧ (gT m (gR m l0 19) = 20 ∧ vp_in (((5 : Int32) * l4) + l6) (gN m (gR m l0 19))))) (fun v1 m1 o1 => f_X12_foreseen_89 k20 k54 l0 l1 l2 l3 l4 l6 v1 l5 m1 o1))
set_option maxRecDepth 10000 in
theorem t_X12_foreseen_54b (l : Launch) (E : En) (c0 s0 : Nat) (k20 : Nat → Int32 → Int32 → Int32 → Int32 → Mm → Prop → Int32 × Mm × Prop) (hk20 : ∀ (l0 : Nat) (l1 : Int32) (l2 : Int32) (l3 : Int32) (l4 : Int32) (m : Mm) (o : Prop), Mh wI l E mi_X12_foreseen c0 s0 20 [(0, .ref l0), (1, .int l1), (2, .int l2), (3, .int l3), (4, .int l4)] [] m o (k20 l0 l1 l2 l3 l4 m o)) (k54 : Nat → Int32 → Int32 → Int32 → Int32 → Int32 → Int32 → Mm → Prop → Int32 × Mm × Prop) (hk54 : ∀ (l0 : Nat) (l1 : Int32) (l2 : Int32) (l3 : Int32) (l4 : Int32) (l5 : Int32) (l6 : Int32) (m : Mm) (o : Prop), Mh wI l E mi_X12_foreseen c0 s0 54 [(0, .ref l0), (1, .int l1), (2, .int l2), (3, .int l3), (4, .int l4), (5, .int l5), (6, .int l6)] [] m o (k54 l0 l1 l2 l3 l4 l5 l6 m o)) (l0 : Nat) (l1 : Int32) (l2 : Int32) (l3 : Int32) (l4 : Int32) (l5 : Int32) (l6 : Int32) (m : Mm) (o : Prop) : Mh wI l E mi_X12_foreseen c0 s0 54 [(0, .ref l0), (1, .int l1), (2, .int l2), (3, .int l3), (4, .int l4), (5, .int l5), (6, .int l6)] [] m o (f_X12_foreseen_54b k20 k54 l0 l1 l2 l3 l4 l5 l6 m o) := by
  refine Mh_iload 6 rfl dX12_foreseen_54 ?_
  refine Mh_iconst (v := 5) dX12_foreseen_56 (by decide) ?_
  refine Mh_icmp_ge (tgt := 98) dX12_foreseen_57 (by decide) rfl (fun _ => ?_) (fun _ => ?_)
  · refine Mh_iload 5 rfl dX12_foreseen_98 ?_
    refine Mh_iload_n 3 rfl dX12_foreseen_100 ?_
    refine Mh_icmp_lt (tgt := 107) dX12_foreseen_101 (by decide) rfl (fun _ => ?_) (fun _ => ?_)
    · refine Mh_aload_n 0 rfl dX12_foreseen_107 ?_
      refine Mh_gR fd_11_18 fl_RX12_52 dX12_foreseen_108 ?_
      refine Mh_iload 4 rfl dX12_foreseen_111 ?_
      refine Mh_ial dX12_foreseen_113 ?_
      refine Mh_istore_n (lv' := [(2, .int (gI m (gR m l0 18) (ix l4))), (0, .ref l0), (1, .int l1), (3, .int l3), (4, .int l4), (5, .int l5), (6, .int l6)]) dX12_foreseen_114 (Nat.le_of_ble_eq_true rfl) rfl ?_
      refine Mh_iload 5 rfl dX12_foreseen_115 ?_
      refine Mh_istore_n (lv' := [(3, .int l5), (2, .int (gI m (gR m l0 18) (ix l4))), (0, .ref l0), (1, .int l1), (4, .int l4), (5, .int l5), (6, .int l6)]) dX12_foreseen_117 (Nat.le_of_ble_eq_true rfl) rfl ?_
      refine Mh_sub (lv' := [(0, .ref l0), (1, .int l1), (2, .int (gI m (gR m l0 18) (ix l4))), (3, .int l5), (4, .int l4)]) [2, 3, 1, 0, 4] rfl ?_
      exact t_X12_foreseen_118 l E c0 s0 k20 hk20 _ _ _ _ _ _ _
    · refine Mh_goto (tgt := 118) dX12_foreseen_104 (by decide) ?_
      refine Mh_sub (lv' := [(0, .ref l0), (1, .int l1), (2, .int l2), (3, .int l3), (4, .int l4)]) [0, 1, 2, 3, 4] rfl ?_
      exact t_X12_foreseen_118 l E c0 s0 k20 hk20 _ _ _ _ _ _ _
  · refine Mh_iload 5 rfl dX12_foreseen_60 ?_
    refine Mh_aload_n 0 rfl dX12_foreseen_62 ?_
    refine Mh_gR fd_11_19 fl_RX12_55 dX12_foreseen_63 ?_
    refine Mh_iconst (v := 5) dX12_foreseen_66 (by decide) ?_
    refine Mh_iload_n 1 rfl dX12_foreseen_67 ?_
    refine Mh_imul dX12_foreseen_68 ?_
    refine Mh_iload 6 rfl dX12_foreseen_69 ?_
    refine Mh_iadd dX12_foreseen_71 ?_
    refine Mh_ial dX12_foreseen_72 ?_
    refine Mh_aload_n 0 rfl dX12_foreseen_73 ?_
    refine Mh_gR fd_11_19 fl_RX12_55 dX12_foreseen_74 ?_
    refine Mh_ok (fun h => h.1.2) ?_
    refine Mh_iconst (v := 5) dX12_foreseen_77 (by decide) ?_
    refine Mh_iload 4 rfl dX12_foreseen_78 ?_
    refine Mh_imul dX12_foreseen_80 ?_
    refine Mh_iload 6 rfl dX12_foreseen_81 ?_
    refine Mh_iadd dX12_foreseen_83 ?_
    refine Mh_ial dX12_foreseen_84 ?_
    refine Mh_isub dX12_foreseen_85 ?_
    refine Mh_csI (N := mi_X12_size) (as := [.int ((gI m (gR m l0 19) (ix (((5 : Int32) * l1) + l6))) - (gI m (gR m l0 19) (ix (((5 : Int32) * l4) + l6))))]) (st := [.int l5]) cg_yX12_size (.inl ml_RX12_345) sv_yX12_size pd_yX12_size rfl (by decide) (Nat.le_of_ble_eq_true rfl) rfl dX12_foreseen_86 (T_X12_size l E _ _ _) rfl ?_
    refine Mh_sub (lv' := [(0, .ref l0), (1, .int l1), (2, .int l2), (3, .int l3), (4, .int l4), (6, .int l6)]) [0, 1, 2, 3, 4, 6] rfl ?_
    exact t_X12_foreseen_89 l E c0 s0 k20 hk20 k54 hk54 _ _ _ _ _ _ _ _ _ _
def f_X12_foreseen_54 (k20 : Nat → Int32 → Int32 → Int32 → Int32 → Mm → Prop → Int32 × Mm × Prop) : Nat → Nat → Int32 → Int32 → Int32 → Int32 → Int32 → Int32 → Mm → Prop → Int32 × Mm × Prop
  | 0, _, _, _, _, _, _, _, m, _ => (0, m, False)
  | n + 1, l0, l1, l2, l3, l4, l5, l6, m, o => f_X12_foreseen_54b k20 (f_X12_foreseen_54 k20 n) l0 l1 l2 l3 l4 l5 l6 m o
theorem t_X12_foreseen_54 (l : Launch) (E : En) (c0 s0 : Nat) (k20 : Nat → Int32 → Int32 → Int32 → Int32 → Mm → Prop → Int32 × Mm × Prop) (hk20 : ∀ (l0 : Nat) (l1 : Int32) (l2 : Int32) (l3 : Int32) (l4 : Int32) (m : Mm) (o : Prop), Mh wI l E mi_X12_foreseen c0 s0 20 [(0, .ref l0), (1, .int l1), (2, .int l2), (3, .int l3), (4, .int l4)] [] m o (k20 l0 l1 l2 l3 l4 m o)) : ∀ (n : Nat) (l0 : Nat) (l1 : Int32) (l2 : Int32) (l3 : Int32) (l4 : Int32) (l5 : Int32) (l6 : Int32) (m : Mm) (o : Prop), Mh wI l E mi_X12_foreseen c0 s0 54 [(0, .ref l0), (1, .int l1), (2, .int l2), (3, .int l3), (4, .int l4), (5, .int l5), (6, .int l6)] [] m o (f_X12_foreseen_54 k20 n l0 l1 l2 l3 l4 l5 l6 m o)
  | 0, _, _, _, _, _, _, _, _, _ => Mh_out rfl
  | n + 1, l0, l1, l2, l3, l4, l5, l6, m, o => t_X12_foreseen_54b l E c0 s0 k20 hk20 (f_X12_foreseen_54 k20 n) (t_X12_foreseen_54 l E c0 s0 k20 hk20 n) l0 l1 l2 l3 l4 l5 l6 m o
def f_X12_foreseen_20b (k20 : Nat → Int32 → Int32 → Int32 → Int32 → Mm → Prop → Int32 × Mm × Prop) (l0 : Nat) (l1 : Int32) (l2 : Int32) (l3 : Int32) (l4 : Int32) (m : Mm) (o : Prop) : Int32 × Mm × Prop := if (gI m l0 3) ≤ l4 then (l2, m, (o ∧ gT m l0 = 12)) else (if l4 = l1 then (f_X12_foreseen_118 k20 l0 l1 l2 l3 l4 m (o ∧ gT m l0 = 12)) else (if 0 ≤ (gI m (gR m l0 18) (ix l4)) then (f_X12_foreseen_54 k20 1000 l0 l1 l2 l3 l4 (0 : Int32) (0 : Int32) m (((o ∧ gT m l0 = 12) ∧ (gT m l0 = 12 ∧ gR m l0 18 ≠ 0)) ∧ (gT m (gR m l0 18) = 20 ∧ vp_in l4 (gN m (gR m l0 18))))) else (f_X12_foreseen_118 k20 l0 l1 l2 l3 l4 m (((o ∧ gT m l0 = 12) ∧ (gT m l0 = 12 ∧ gR m l0 18 ≠ 0)) ∧ (gT m (gR m l0 18) = 20 ∧ vp_in l4 (gN m (gR m l0 18)))))))
set_option maxRecDepth 10000 in
theorem t_X12_foreseen_20b (l : Launch) (E : En) (c0 s0 : Nat) (k20 : Nat → Int32 → Int32 → Int32 → Int32 → Mm → Prop → Int32 × Mm × Prop) (hk20 : ∀ (l0 : Nat) (l1 : Int32) (l2 : Int32) (l3 : Int32) (l4 : Int32) (m : Mm) (o : Prop), Mh wI l E mi_X12_foreseen c0 s0 20 [(0, .ref l0), (1, .int l1), (2, .int l2), (3, .int l3), (4, .int l4)] [] m o (k20 l0 l1 l2 l3 l4 m o)) (l0 : Nat) (l1 : Int32) (l2 : Int32) (l3 : Int32) (l4 : Int32) (m : Mm) (o : Prop) : Mh wI l E mi_X12_foreseen c0 s0 20 [(0, .ref l0), (1, .int l1), (2, .int l2), (3, .int l3), (4, .int l4)] [] m o (f_X12_foreseen_20b k20 l0 l1 l2 l3 l4 m o) := by
  refine Mh_iload 4 rfl dX12_foreseen_20 ?_
  refine Mh_aload_n 0 rfl dX12_foreseen_22 ?_
  refine Mh_gI fd_11_3 fl_RX12_199 dX12_foreseen_23 ?_
  refine Mh_icmp_ge (tgt := 124) dX12_foreseen_26 (by decide) rfl (fun _ => ?_) (fun _ => ?_)
  · refine Mh_iload_n 2 rfl dX12_foreseen_124 ?_
    exact Mh_ret dX12_foreseen_125 rfl (fun _ => rfl) rfl
  · refine Mh_iload 4 rfl dX12_foreseen_29 ?_
    refine Mh_iload_n 1 rfl dX12_foreseen_31 ?_
    refine Mh_icmp_eq (tgt := 118) dX12_foreseen_32 (by decide) rfl (fun _ => ?_) (fun _ => ?_)
    · exact t_X12_foreseen_118 l E c0 s0 k20 hk20 _ _ _ _ _ _ _
    · refine Mh_aload_n 0 rfl dX12_foreseen_35 ?_
      refine Mh_gR fd_11_18 fl_RX12_52 dX12_foreseen_36 ?_
      refine Mh_iload 4 rfl dX12_foreseen_39 ?_
      refine Mh_ial dX12_foreseen_41 ?_
      refine Mh_if_ge (tgt := 48) dX12_foreseen_42 (by decide) rfl (fun _ => ?_) (fun _ => ?_)
      · refine Mh_iconst (v := 0) dX12_foreseen_48 (by decide) ?_
        refine Mh_istore (lv' := [(5, .int (0 : Int32)), (0, .ref l0), (1, .int l1), (2, .int l2), (3, .int l3), (4, .int l4)]) dX12_foreseen_49 (Nat.le_of_ble_eq_true rfl) rfl ?_
        refine Mh_iconst (v := 0) dX12_foreseen_51 (by decide) ?_
        refine Mh_istore (lv' := [(6, .int (0 : Int32)), (5, .int (0 : Int32)), (0, .ref l0), (1, .int l1), (2, .int l2), (3, .int l3), (4, .int l4)]) dX12_foreseen_52 (Nat.le_of_ble_eq_true rfl) rfl ?_
        refine Mh_sub (lv' := [(0, .ref l0), (1, .int l1), (2, .int l2), (3, .int l3), (4, .int l4), (5, .int (0 : Int32)), (6, .int (0 : Int32))]) [2, 3, 4, 5, 6, 1, 0] rfl ?_
        exact t_X12_foreseen_54 l E c0 s0 k20 hk20 _ _ _ _ _ _ _ _ _ _
      · refine Mh_goto (tgt := 118) dX12_foreseen_45 (by decide) ?_
        exact t_X12_foreseen_118 l E c0 s0 k20 hk20 _ _ _ _ _ _ _
def f_X12_foreseen_20 : Nat → Nat → Int32 → Int32 → Int32 → Int32 → Mm → Prop → Int32 × Mm × Prop
  | 0, _, _, _, _, _, m, _ => (0, m, False)
  | n + 1, l0, l1, l2, l3, l4, m, o => f_X12_foreseen_20b (f_X12_foreseen_20 n) l0 l1 l2 l3 l4 m o
theorem t_X12_foreseen_20 (l : Launch) (E : En) (c0 s0 : Nat) : ∀ (n : Nat) (l0 : Nat) (l1 : Int32) (l2 : Int32) (l3 : Int32) (l4 : Int32) (m : Mm) (o : Prop), Mh wI l E mi_X12_foreseen c0 s0 20 [(0, .ref l0), (1, .int l1), (2, .int l2), (3, .int l3), (4, .int l4)] [] m o (f_X12_foreseen_20 n l0 l1 l2 l3 l4 m o)
  | 0, _, _, _, _, _, _, _ => Mh_out rfl
  | n + 1, l0, l1, l2, l3, l4, m, o => t_X12_foreseen_20b l E c0 s0 (f_X12_foreseen_20 n) (t_X12_foreseen_20 l E c0 s0 n) l0 l1 l2 l3 l4 m o
def f_X12_foreseen_5 (l0 : Nat) (l1 : Int32) (y0 : Int32) (m : Mm) (o : Prop) : Int32 × Mm × Prop := if y0 = 0 then ((-1 : Int32), m, o) else (f_X12_foreseen_20 1000 l0 l1 (-2 : Int32) (1000000000 : Int32) (0 : Int32) m o)
set_option maxRecDepth 10000 in
theorem t_X12_foreseen_5 (l : Launch) (E : En) (c0 s0 : Nat) (l0 : Nat) (l1 : Int32) (y0 : Int32) (m : Mm) (o : Prop) : Mh wI l E mi_X12_foreseen c0 s0 5 [(0, .ref l0), (1, .int l1)] [.int y0] m o (f_X12_foreseen_5 l0 l1 y0 m o) := by
  refine Mh_if_ne (tgt := 10) dX12_foreseen_5 (by decide) rfl (fun _ => ?_) (fun _ => ?_)
  · refine Mh_bipush (v := (-2)) dX12_foreseen_10 (by decide) ?_
    refine Mh_istore_n (lv' := [(2, .int (-2 : Int32)), (0, .ref l0), (1, .int l1)]) dX12_foreseen_12 (Nat.le_of_ble_eq_true rfl) rfl ?_
    refine Mh_ldcw (v := 1000000000) gc_RX12_467 dX12_foreseen_13 ?_
    refine Mh_istore_n (lv' := [(3, .int (1000000000 : Int32)), (2, .int (-2 : Int32)), (0, .ref l0), (1, .int l1)]) dX12_foreseen_16 (Nat.le_of_ble_eq_true rfl) rfl ?_
    refine Mh_iconst (v := 0) dX12_foreseen_17 (by decide) ?_
    refine Mh_istore (lv' := [(4, .int (0 : Int32)), (3, .int (1000000000 : Int32)), (2, .int (-2 : Int32)), (0, .ref l0), (1, .int l1)]) dX12_foreseen_18 (Nat.le_of_ble_eq_true rfl) rfl ?_
    refine Mh_sub (lv' := [(0, .ref l0), (1, .int l1), (2, .int (-2 : Int32)), (3, .int (1000000000 : Int32)), (4, .int (0 : Int32))]) [3, 4, 2, 1, 0] rfl ?_
    exact t_X12_foreseen_20 l E c0 s0 _ _ _ _ _ _ _ _
  · refine Mh_iconst (v := (-1)) dX12_foreseen_8 (by decide) ?_
    exact Mh_ret dX12_foreseen_9 rfl (fun _ => rfl) rfl
def f_X12_foreseen_0 (l0 : Nat) (l1 : Int32) (m : Mm) (o : Prop) : Int32 × Mm × Prop := bnd (F_X12_isCow l0 l1 m (o ∧ gT m l0 = 12)) (fun v1 m1 o1 => f_X12_foreseen_5 l0 l1 v1 m1 o1)
set_option maxRecDepth 10000 in
theorem t_X12_foreseen_0 (l : Launch) (E : En) (c0 s0 : Nat) (l0 : Nat) (l1 : Int32) (m : Mm) (o : Prop) : Mh wI l E mi_X12_foreseen c0 s0 0 [(0, .ref l0), (1, .int l1)] [] m o (f_X12_foreseen_0 l0 l1 m o) := by
  refine Mh_aload_n 0 rfl dX12_foreseen_0 ?_
  refine Mh_iload_n 1 rfl dX12_foreseen_1 ?_
  refine Mh_cvI (N := mi_X12_isCow) (q := l0) (ci := 11) (as := [.int l1]) (st := []) (id) cg_yX12_isCow (by decide) rfl rfl ml_RX12_217 iv_yX12_isCow pd_yX12_isCow rfl (by decide) (Nat.le_of_ble_eq_true rfl) rfl dX12_foreseen_2 (T_X12_isCow l E _ _ _ _) rfl ?_
  exact t_X12_foreseen_5 l E c0 s0 _ _ _ _ _
def F_X12_foreseen (a0 : Nat) (a1 : Int32) (m : Mm) (o : Prop) : Int32 × Mm × Prop := f_X12_foreseen_0 a0 a1 m o
theorem T_X12_foreseen (l : Launch) (E : En) (a0 : Nat) (a1 : Int32) (m : Mm) (o : Prop) : Mt wI l E yX12_foreseen mi_X12_foreseen [.ref a0, .int a1] m o (F_X12_foreseen a0 a1 m o) :=
  Mt_I (by decide) rfl rfl rfl (Nat.le_of_ble_eq_true rfl) rfl (.inl rfl) (t_X12_foreseen_0 l E _ _ _ _ _ _)
def f_X12_keep_14 (y0 : Int32) (m : Mm) (o : Prop) : Int32 × Mm × Prop := (y0, m, o)
set_option maxRecDepth 10000 in
theorem t_X12_keep_14 (l : Launch) (E : En) (c0 s0 : Nat) (y0 : Int32) (m : Mm) (o : Prop) : Mh wI l E mi_X12_keep c0 s0 14 [] [.int y0] m o (f_X12_keep_14 y0 m o) := by
  exact Mh_ret dX12_keep_14 rfl (fun _ => rfl) rfl
def f_X12_keep_10 (l0 : Nat) (m : Mm) (o : Prop) : Int32 × Mm × Prop := bnd (F_X12_standing l0 m (o ∧ gT m l0 = 12)) (fun v1 m1 o1 => f_X12_keep_14 v1 m1 o1)
set_option maxRecDepth 10000 in
theorem t_X12_keep_10 (l : Launch) (E : En) (c0 s0 : Nat) (l0 : Nat) (m : Mm) (o : Prop) : Mh wI l E mi_X12_keep c0 s0 10 [(0, .ref l0)] [] m o (f_X12_keep_10 l0 m o) := by
  refine Mh_aload_n 0 rfl dX12_keep_10 ?_
  refine Mh_cvI (N := mi_X12_standing) (q := l0) (ci := 11) (as := []) (st := []) (id) cg_yX12_standing (by decide) rfl rfl ml_RX12_496 iv_yX12_standing pd_yX12_standing rfl (by decide) (Nat.le_of_ble_eq_true rfl) rfl dX12_keep_11 (T_X12_standing l E _ _ _) rfl ?_
  refine Mh_sub (lv' := []) [] rfl ?_
  exact t_X12_keep_14 l E c0 s0 _ _ _
def f_X12_keep_5 (l0 : Nat) (m : Mm) (o : Prop) : Int32 × Mm × Prop := bnd (F_X12_setsAside l0 (1 : Int32) m (o ∧ gT m l0 = 12)) (fun _ m1 o1 => f_X12_keep_10 l0 m1 o1)
set_option maxRecDepth 10000 in
theorem t_X12_keep_5 (l : Launch) (E : En) (c0 s0 : Nat) (l0 : Nat) (m : Mm) (o : Prop) : Mh wI l E mi_X12_keep c0 s0 5 [(0, .ref l0)] [] m o (f_X12_keep_5 l0 m o) := by
  refine Mh_aload_n 0 rfl dX12_keep_5 ?_
  refine Mh_iconst (v := 1) dX12_keep_6 (by decide) ?_
  refine Mh_cvU (N := mi_X12_setsAside) (q := l0) (ci := 11) (as := [.int (1 : Int32)]) (st := []) (id) cg_yX12_setsAside (by decide) rfl rfl ml_RX12_411 iv_yX12_setsAside pd_yX12_setsAside rfl (by decide) (Nat.le_of_ble_eq_true rfl) rfl dX12_keep_7 (T_X12_setsAside l E _ _ _ _) rfl ?_
  exact t_X12_keep_10 l E c0 s0 _ _ _
def f_X12_keep_0 (l0 : Nat) (m : Mm) (o : Prop) : Int32 × Mm × Prop := f_X12_keep_5 l0 (sI m l0 77 (1 : Int32)) (o ∧ (gT m l0 = 12 ∧ ((1 : Int32) = 0 ∨ (1 : Int32) = 1)))
set_option maxRecDepth 10000 in
theorem t_X12_keep_0 (l : Launch) (E : En) (c0 s0 : Nat) (l0 : Nat) (m : Mm) (o : Prop) : Mh wI l E mi_X12_keep c0 s0 0 [(0, .ref l0)] [] m o (f_X12_keep_0 l0 m o) := by
  refine Mh_aload_n 0 rfl dX12_keep_0 ?_
  refine Mh_iconst (v := 1) dX12_keep_1 (by decide) ?_
  refine Mh_pZ fd_11_77 ft_11 rfl fl_RX12_493 rfl dX12_keep_2 ?_
  exact t_X12_keep_5 l E c0 s0 _ _ _
def F_X12_keep (a0 : Nat) (m : Mm) (o : Prop) : Int32 × Mm × Prop := f_X12_keep_0 a0 m o
theorem T_X12_keep (l : Launch) (E : En) (a0 : Nat) (m : Mm) (o : Prop) : Mt wI l E yX12_keep mi_X12_keep [.ref a0] m o (F_X12_keep a0 m o) :=
  Mt_I (by decide) rfl rfl rfl (Nat.le_of_ble_eq_true rfl) rfl (.inl rfl) (t_X12_keep_0 l E _ _ _ _ _)
def f_X12_isGood_12 (y0 : Int32) (m : Mm) (o : Prop) : Int32 × Mm × Prop := (y0, m, o ∧ (y0 = 0 ∨ y0 = 1))
set_option maxRecDepth 10000 in
theorem t_X12_isGood_12 (l : Launch) (E : En) (c0 s0 : Nat) (y0 : Int32) (m : Mm) (o : Prop) : Mh wI l E mi_X12_isGood c0 s0 12 [] [.int y0] m o (f_X12_isGood_12 y0 m o) := by
  exact Mh_retZ dX12_isGood_12 (.inl rfl) rfl
def f_X12_isGood_0 (l0 : Nat) (m : Mm) (o : Prop) : Int32 × Mm × Prop := if (gI m l0 37) = 0 then (f_X12_isGood_12 (1 : Int32) m (o ∧ gT m l0 = 12)) else (f_X12_isGood_12 (0 : Int32) m (o ∧ gT m l0 = 12))
set_option maxRecDepth 10000 in
theorem t_X12_isGood_0 (l : Launch) (E : En) (c0 s0 : Nat) (l0 : Nat) (m : Mm) (o : Prop) : Mh wI l E mi_X12_isGood c0 s0 0 [(0, .ref l0)] [] m o (f_X12_isGood_0 l0 m o) := by
  refine Mh_aload_n 0 rfl dX12_isGood_0 ?_
  refine Mh_gI fd_11_37 fl_RX12_241 dX12_isGood_1 ?_
  refine Mh_if_ne (tgt := 11) dX12_isGood_4 (by decide) rfl (fun _ => ?_) (fun _ => ?_)
  · refine Mh_iconst (v := 0) dX12_isGood_11 (by decide) ?_
    refine Mh_sub (lv' := []) [] rfl ?_
    exact t_X12_isGood_12 l E c0 s0 _ _ _
  · refine Mh_iconst (v := 1) dX12_isGood_7 (by decide) ?_
    refine Mh_goto (tgt := 12) dX12_isGood_8 (by decide) ?_
    refine Mh_sub (lv' := []) [] rfl ?_
    exact t_X12_isGood_12 l E c0 s0 _ _ _
def F_X12_isGood (a0 : Nat) (m : Mm) (o : Prop) : Int32 × Mm × Prop := f_X12_isGood_0 a0 m o
theorem T_X12_isGood (l : Launch) (E : En) (a0 : Nat) (m : Mm) (o : Prop) : Mt wI l E yX12_isGood mi_X12_isGood [.ref a0] m o (F_X12_isGood a0 m o) :=
  Mt_I (by decide) rfl rfl rfl (Nat.le_of_ble_eq_true rfl) rfl (.inr (.inl rfl)) (t_X12_isGood_0 l E _ _ _ _ _)
def f_X12_emit_38 (m : Mm) (o : Prop) : Unit × Mm × Prop := ((), m, o)
set_option maxRecDepth 10000 in
theorem t_X12_emit_38 (l : Launch) (E : En) (c0 s0 : Nat) (m : Mm) (o : Prop) : Mh wU l E mi_X12_emit c0 s0 38 [] [] m o (f_X12_emit_38  m o) := by
  exact Mh_ret dX12_emit_38 rfl (fun _ => trivial) rfl
def f_X12_emit_28 (l0 : Nat) (m : Mm) (o : Prop) : Unit × Mm × Prop := f_X12_emit_38  (sI m l0 39 ((gI m l0 39) + (1 : Int32))) (o ∧ gT m l0 = 12)
set_option maxRecDepth 10000 in
theorem t_X12_emit_28 (l : Launch) (E : En) (c0 s0 : Nat) (l0 : Nat) (m : Mm) (o : Prop) : Mh wU l E mi_X12_emit c0 s0 28 [(0, .ref l0)] [] m o (f_X12_emit_28 l0 m o) := by
  refine Mh_aload_n 0 rfl dX12_emit_28 ?_
  refine Mh_dup dX12_emit_29 rfl ?_
  refine Mh_gI fd_11_39 fl_RX12_248 dX12_emit_30 ?_
  refine Mh_iconst (v := 1) dX12_emit_33 (by decide) ?_
  refine Mh_iadd dX12_emit_34 ?_
  refine Mh_pI fd_11_39 ft_11 rfl fl_RX12_248 rfl dX12_emit_35 ?_
  refine Mh_ok (fun h => h.2) ?_
  refine Mh_sub (lv' := []) [] rfl ?_
  exact t_X12_emit_38 l E c0 s0  _ _
def f_X12_emit_18 (l0 : Nat) (l2 : Int32) (m : Mm) (o : Prop) : Unit × Mm × Prop := f_X12_emit_28 l0 (sI m (gR m l0 34) (ix (gI m l0 39)) l2) (((o ∧ (gT m l0 = 12 ∧ gR m l0 34 ≠ 0)) ∧ gT m l0 = 12) ∧ (gT m (gR m l0 34) = 20 ∧ vp_in (gI m l0 39) (gN m (gR m l0 34))))
set_option maxRecDepth 10000 in
theorem t_X12_emit_18 (l : Launch) (E : En) (c0 s0 : Nat) (l0 : Nat) (l2 : Int32) (m : Mm) (o : Prop) : Mh wU l E mi_X12_emit c0 s0 18 [(0, .ref l0), (2, .int l2)] [] m o (f_X12_emit_18 l0 l2 m o) := by
  refine Mh_aload_n 0 rfl dX12_emit_18 ?_
  refine Mh_gR fd_11_34 fl_RX12_97 dX12_emit_19 ?_
  refine Mh_aload_n 0 rfl dX12_emit_22 ?_
  refine Mh_gI fd_11_39 fl_RX12_248 dX12_emit_23 ?_
  refine Mh_iload_n 1 rfl dX12_emit_26 ?_
  refine Mh_ias dX12_emit_27 ?_
  refine Mh_sub (lv' := [(0, .ref l0)]) [0] rfl ?_
  exact t_X12_emit_28 l E c0 s0 _ _ _
def f_X12_emit_4 (l0 : Nat) (l1 : Int32) (l2 : Int32) (y0 : Int32) (m : Mm) (o : Prop) : Unit × Mm × Prop := if y0 = 0 then ((), m, o) else (f_X12_emit_18 l0 l2 (sI m (gR m l0 33) (ix (gI m l0 39)) l1) (((o ∧ (gT m l0 = 12 ∧ gR m l0 33 ≠ 0)) ∧ gT m l0 = 12) ∧ (gT m (gR m l0 33) = 20 ∧ vp_in (gI m l0 39) (gN m (gR m l0 33)))))
set_option maxRecDepth 10000 in
theorem t_X12_emit_4 (l : Launch) (E : En) (c0 s0 : Nat) (l0 : Nat) (l1 : Int32) (l2 : Int32) (y0 : Int32) (m : Mm) (o : Prop) : Mh wU l E mi_X12_emit c0 s0 4 [(0, .ref l0), (1, .int l1), (2, .int l2)] [.int y0] m o (f_X12_emit_4 l0 l1 l2 y0 m o) := by
  refine Mh_if_ne (tgt := 8) dX12_emit_4 (by decide) rfl (fun _ => ?_) (fun _ => ?_)
  · refine Mh_aload_n 0 rfl dX12_emit_8 ?_
    refine Mh_gR fd_11_33 fl_RX12_94 dX12_emit_9 ?_
    refine Mh_aload_n 0 rfl dX12_emit_12 ?_
    refine Mh_gI fd_11_39 fl_RX12_248 dX12_emit_13 ?_
    refine Mh_iload_n 1 rfl dX12_emit_16 ?_
    refine Mh_ias dX12_emit_17 ?_
    refine Mh_sub (lv' := [(0, .ref l0), (2, .int l2)]) [0, 2] rfl ?_
    exact t_X12_emit_18 l E c0 s0 _ _ _ _
  · exact Mh_ret dX12_emit_7 rfl (fun _ => trivial) rfl
def f_X12_emit_0 (l0 : Nat) (l1 : Int32) (l2 : Int32) (m : Mm) (o : Prop) : Unit × Mm × Prop := bnd (F_X12_isGood l0 m (o ∧ gT m l0 = 12)) (fun v1 m1 o1 => f_X12_emit_4 l0 l1 l2 v1 m1 o1)
set_option maxRecDepth 10000 in
theorem t_X12_emit_0 (l : Launch) (E : En) (c0 s0 : Nat) (l0 : Nat) (l1 : Int32) (l2 : Int32) (m : Mm) (o : Prop) : Mh wU l E mi_X12_emit c0 s0 0 [(0, .ref l0), (1, .int l1), (2, .int l2)] [] m o (f_X12_emit_0 l0 l1 l2 m o) := by
  refine Mh_aload_n 0 rfl dX12_emit_0 ?_
  refine Mh_cvI (N := mi_X12_isGood) (q := l0) (ci := 11) (as := []) (st := []) (id) cg_yX12_isGood (by decide) rfl rfl ml_RX12_244 iv_yX12_isGood pd_yX12_isGood rfl (by decide) (Nat.le_of_ble_eq_true rfl) rfl dX12_emit_1 (T_X12_isGood l E _ _ _) rfl ?_
  exact t_X12_emit_4 l E c0 s0 _ _ _ _ _ _
def F_X12_emit (a0 : Nat) (a1 : Int32) (a2 : Int32) (m : Mm) (o : Prop) : Unit × Mm × Prop := f_X12_emit_0 a0 a1 a2 m o
theorem T_X12_emit (l : Launch) (E : En) (a0 : Nat) (a1 : Int32) (a2 : Int32) (m : Mm) (o : Prop) : Mt wU l E yX12_emit mi_X12_emit [.ref a0, .int a1, .int a2] m o (F_X12_emit a0 a1 a2 m o) :=
  Mt_U (by decide) rfl (fun h => by cases h) rfl (Nat.le_of_ble_eq_true rfl) rfl (t_X12_emit_0 l E _ _ _ _ _ _ _)
def f_X12_top_22 (y0 : Int32) (m : Mm) (o : Prop) : Int32 × Mm × Prop := (y0, m, o)
set_option maxRecDepth 10000 in
theorem t_X12_top_22 (l : Launch) (E : En) (c0 s0 : Nat) (y0 : Int32) (m : Mm) (o : Prop) : Mh wI l E mi_X12_top c0 s0 22 [] [.int y0] m o (f_X12_top_22 y0 m o) := by
  exact Mh_ret dX12_top_22 rfl (fun _ => rfl) rfl
def f_X12_top_0 (l0 : Nat) (m : Mm) (o : Prop) : Int32 × Mm × Prop := if (gI m l0 41) ≤ 0 then (f_X12_top_22 (0 : Int32) m (o ∧ gT m l0 = 12)) else (f_X12_top_22 (gI m (gR m l0 44) (ix ((gI m l0 41) - (1 : Int32)))) m (((o ∧ gT m l0 = 12) ∧ (gT m l0 = 12 ∧ gR m l0 44 ≠ 0)) ∧ (gT m (gR m l0 44) = 20 ∧ vp_in ((gI m l0 41) - (1 : Int32)) (gN m (gR m l0 44)))))
set_option maxRecDepth 10000 in
theorem t_X12_top_0 (l : Launch) (E : En) (c0 s0 : Nat) (l0 : Nat) (m : Mm) (o : Prop) : Mh wI l E mi_X12_top c0 s0 0 [(0, .ref l0)] [] m o (f_X12_top_0 l0 m o) := by
  refine Mh_aload_n 0 rfl dX12_top_0 ?_
  refine Mh_gI fd_11_41 fl_RX12_251 dX12_top_1 ?_
  refine Mh_if_le (tgt := 21) dX12_top_4 (by decide) rfl (fun _ => ?_) (fun _ => ?_)
  · refine Mh_iconst (v := 0) dX12_top_21 (by decide) ?_
    refine Mh_sub (lv' := []) [] rfl ?_
    exact t_X12_top_22 l E c0 s0 _ _ _
  · refine Mh_aload_n 0 rfl dX12_top_7 ?_
    refine Mh_gR fd_11_44 fl_RX12_100 dX12_top_8 ?_
    refine Mh_aload_n 0 rfl dX12_top_11 ?_
    refine Mh_gI fd_11_41 fl_RX12_251 dX12_top_12 ?_
    refine Mh_ok (fun h => h.1.2) ?_
    refine Mh_iconst (v := 1) dX12_top_15 (by decide) ?_
    refine Mh_isub dX12_top_16 ?_
    refine Mh_ial dX12_top_17 ?_
    refine Mh_goto (tgt := 22) dX12_top_18 (by decide) ?_
    refine Mh_sub (lv' := []) [] rfl ?_
    exact t_X12_top_22 l E c0 s0 _ _ _
def F_X12_top (a0 : Nat) (m : Mm) (o : Prop) : Int32 × Mm × Prop := f_X12_top_0 a0 m o
theorem T_X12_top (l : Launch) (E : En) (a0 : Nat) (m : Mm) (o : Prop) : Mt wI l E yX12_top mi_X12_top [.ref a0] m o (F_X12_top a0 m o) :=
  Mt_I (by decide) rfl rfl rfl (Nat.le_of_ble_eq_true rfl) rfl (.inl rfl) (t_X12_top_0 l E _ _ _ _ _)
