def f_X11_stackIs_114 (y0 : Int32) (m : Mm) (o : Prop) : Int32 × Mm × Prop := (y0, m, o)
set_option maxRecDepth 10000 in
theorem t_X11_stackIs_114 (l : Launch) (E : En) (c0 s0 : Nat) (y0 : Int32) (m : Mm) (o : Prop) : Mh wI l E mi_X11_stackIs c0 s0 114 [] [.int y0] m o (f_X11_stackIs_114 y0 m o) := by
  exact Mh_ret dX11_stackIs_114 rfl (fun _ => rfl) rfl
def f_X11_stackIs_5 (l0 : Nat) (l1 : Int32) (l2 : Int32) (y0 : Int32) (m : Mm) (o : Prop) : Int32 × Mm × Prop := if y0 = 0 then ((-1 : Int32), m, o) else (if l2 = 0 then (((10 : Int32) * (gI m (gR m (gR m (gR m l0 0) 0) (ix l1)) 1)) + (gI m (gR m (gR m (gR m l0 0) 0) (ix l1)) 0), m, ((((o ∧ (gT m l0 = 11 ∧ gR m l0 0 ≠ 0)) ∧ (gT m (gR m l0 0) = 6 ∧ gR m (gR m l0 0) 0 ≠ 0)) ∧ (gT m (gR m (gR m l0 0) 0) = 24 ∧ vp_in l1 (gN m (gR m (gR m l0 0) 0)) ∧ gR m (gR m (gR m l0 0) 0) (ix l1) ≠ 0)) ∧ gT m (gR m (gR m (gR m l0 0) 0) (ix l1)) = 8)) else if l2 = 1 then (gI m (gR m (gR m (gR m l0 0) 0) (ix l1)) 2, m, ((((o ∧ (gT m l0 = 11 ∧ gR m l0 0 ≠ 0)) ∧ (gT m (gR m l0 0) = 6 ∧ gR m (gR m l0 0) 0 ≠ 0)) ∧ (gT m (gR m (gR m l0 0) 0) = 24 ∧ vp_in l1 (gN m (gR m (gR m l0 0) 0)) ∧ gR m (gR m (gR m l0 0) 0) (ix l1) ≠ 0)) ∧ gT m (gR m (gR m (gR m l0 0) 0) (ix l1)) = 8)) else if l2 = 2 then (gI m (gR m (gR m (gR m l0 0) 0) (ix l1)) 3, m, ((((o ∧ (gT m l0 = 11 ∧ gR m l0 0 ≠ 0)) ∧ (gT m (gR m l0 0) = 6 ∧ gR m (gR m l0 0) 0 ≠ 0)) ∧ (gT m (gR m (gR m l0 0) 0) = 24 ∧ vp_in l1 (gN m (gR m (gR m l0 0) 0)) ∧ gR m (gR m (gR m l0 0) 0) (ix l1) ≠ 0)) ∧ gT m (gR m (gR m (gR m l0 0) 0) (ix l1)) = 8)) else if l2 = 3 then (gI m (gR m (gR m (gR m l0 0) 0) (ix l1)) 4, m, ((((o ∧ (gT m l0 = 11 ∧ gR m l0 0 ≠ 0)) ∧ (gT m (gR m l0 0) = 6 ∧ gR m (gR m l0 0) 0 ≠ 0)) ∧ (gT m (gR m (gR m l0 0) 0) = 24 ∧ vp_in l1 (gN m (gR m (gR m l0 0) 0)) ∧ gR m (gR m (gR m l0 0) 0) (ix l1) ≠ 0)) ∧ gT m (gR m (gR m (gR m l0 0) 0) (ix l1)) = 8)) else if l2 = 4 then (gI m (gR m (gR m (gR m l0 0) 0) (ix l1)) 5, m, ((((o ∧ (gT m l0 = 11 ∧ gR m l0 0 ≠ 0)) ∧ (gT m (gR m l0 0) = 6 ∧ gR m (gR m l0 0) 0 ≠ 0)) ∧ (gT m (gR m (gR m l0 0) 0) = 24 ∧ vp_in l1 (gN m (gR m (gR m l0 0) 0)) ∧ gR m (gR m (gR m l0 0) 0) (ix l1) ≠ 0)) ∧ gT m (gR m (gR m (gR m l0 0) 0) (ix l1)) = 8)) else if l2 = 5 then (gI m (gR m (gR m (gR m l0 0) 0) (ix l1)) 6, m, ((((o ∧ (gT m l0 = 11 ∧ gR m l0 0 ≠ 0)) ∧ (gT m (gR m l0 0) = 6 ∧ gR m (gR m l0 0) 0 ≠ 0)) ∧ (gT m (gR m (gR m l0 0) 0) = 24 ∧ vp_in l1 (gN m (gR m (gR m l0 0) 0)) ∧ gR m (gR m (gR m l0 0) 0) (ix l1) ≠ 0)) ∧ gT m (gR m (gR m (gR m l0 0) 0) (ix l1)) = 8)) else if l2 = 6 then (if (gI m (gR m (gR m (gR m l0 0) 0) (ix l1)) 7) = 0 then (f_X11_stackIs_114 (0 : Int32) m ((((o ∧ (gT m l0 = 11 ∧ gR m l0 0 ≠ 0)) ∧ (gT m (gR m l0 0) = 6 ∧ gR m (gR m l0 0) 0 ≠ 0)) ∧ (gT m (gR m (gR m l0 0) 0) = 24 ∧ vp_in l1 (gN m (gR m (gR m l0 0) 0)) ∧ gR m (gR m (gR m l0 0) 0) (ix l1) ≠ 0)) ∧ gT m (gR m (gR m (gR m l0 0) 0) (ix l1)) = 8)) else (f_X11_stackIs_114 (1 : Int32) m ((((o ∧ (gT m l0 = 11 ∧ gR m l0 0 ≠ 0)) ∧ (gT m (gR m l0 0) = 6 ∧ gR m (gR m l0 0) 0 ≠ 0)) ∧ (gT m (gR m (gR m l0 0) 0) = 24 ∧ vp_in l1 (gN m (gR m (gR m l0 0) 0)) ∧ gR m (gR m (gR m l0 0) 0) (ix l1) ≠ 0)) ∧ gT m (gR m (gR m (gR m l0 0) 0) (ix l1)) = 8))) else ((-1 : Int32), m, (((o ∧ (gT m l0 = 11 ∧ gR m l0 0 ≠ 0)) ∧ (gT m (gR m l0 0) = 6 ∧ gR m (gR m l0 0) 0 ≠ 0)) ∧ (gT m (gR m (gR m l0 0) 0) = 24 ∧ vp_in l1 (gN m (gR m (gR m l0 0) 0)) ∧ gR m (gR m (gR m l0 0) 0) (ix l1) ≠ 0))))
set_option maxRecDepth 10000 in
theorem t_X11_stackIs_5 (l : Launch) (E : En) (c0 s0 : Nat) (l0 : Nat) (l1 : Int32) (l2 : Int32) (y0 : Int32) (m : Mm) (o : Prop) : Mh wI l E mi_X11_stackIs c0 s0 5 [(0, .ref l0), (1, .int l1), (2, .int l2)] [.int y0] m o (f_X11_stackIs_5 l0 l1 l2 y0 m o) := by
  refine Mh_if_ne (tgt := 10) dX11_stackIs_5 (by decide) rfl (fun _ => ?_) (fun _ => ?_)
  · refine Mh_aload_n 0 rfl dX11_stackIs_10 ?_
    refine Mh_gR fd_10_0 fl_RX11_10 dX11_stackIs_11 ?_
    refine Mh_gR fd_5_0 fl_RX11_101 dX11_stackIs_14 ?_
    refine Mh_iload_n 1 rfl dX11_stackIs_17 ?_
    refine Mh_aal 24 (.inl rfl) dX11_stackIs_18 ?_
    refine Mh_astore_n (lv' := [(3, .ref (gR m (gR m (gR m l0 0) 0) (ix l1))), (0, .ref l0), (1, .int l1), (2, .int l2)]) dX11_stackIs_19 (Nat.le_of_ble_eq_true rfl) rfl ?_
    refine Mh_iload_n 3 rfl dX11_stackIs_20 ?_
    refine Mh_ite (C := l2 = 0) rfl (fun hs0 => ?_) (fun hs0 => ?_)
    · refine Mh_tsi (off := 43) (tgt := 64) dX11_stackIs_21 (by rw [hs0]; decide) (by rw [hs0]; decide) (by rw [hs0]; decide) (by decide) ?_
      refine Mh_bipush (v := 10) dX11_stackIs_64 (by decide) ?_
      refine Mh_aload_n 0 rfl dX11_stackIs_66 ?_
      refine Mh_gI fd_7_1 fl_RX11_185 dX11_stackIs_67 ?_
      refine Mh_imul dX11_stackIs_70 ?_
      refine Mh_aload_n 0 rfl dX11_stackIs_71 ?_
      refine Mh_gI fd_7_0 fl_RX11_188 dX11_stackIs_72 ?_
      refine Mh_ok (fun h => h.2) ?_
      refine Mh_iadd dX11_stackIs_75 ?_
      exact Mh_ret dX11_stackIs_76 rfl (fun _ => rfl) rfl
    refine Mh_ite (C := l2 = 1) rfl (fun hs1 => ?_) (fun hs1 => ?_)
    · refine Mh_tsi (off := 56) (tgt := 77) dX11_stackIs_21 (by rw [hs1]; decide) (by rw [hs1]; decide) (by rw [hs1]; decide) (by decide) ?_
      refine Mh_aload_n 0 rfl dX11_stackIs_77 ?_
      refine Mh_gI fd_7_2 fl_RX11_191 dX11_stackIs_78 ?_
      exact Mh_ret dX11_stackIs_81 rfl (fun _ => rfl) rfl
    refine Mh_ite (C := l2 = 2) rfl (fun hs2 => ?_) (fun hs2 => ?_)
    · refine Mh_tsi (off := 61) (tgt := 82) dX11_stackIs_21 (by rw [hs2]; decide) (by rw [hs2]; decide) (by rw [hs2]; decide) (by decide) ?_
      refine Mh_aload_n 0 rfl dX11_stackIs_82 ?_
      refine Mh_gI fd_7_3 fl_RX11_172 dX11_stackIs_83 ?_
      exact Mh_ret dX11_stackIs_86 rfl (fun _ => rfl) rfl
    refine Mh_ite (C := l2 = 3) rfl (fun hs3 => ?_) (fun hs3 => ?_)
    · refine Mh_tsi (off := 66) (tgt := 87) dX11_stackIs_21 (by rw [hs3]; decide) (by rw [hs3]; decide) (by rw [hs3]; decide) (by decide) ?_
      refine Mh_aload_n 0 rfl dX11_stackIs_87 ?_
      refine Mh_gI fd_7_4 fl_RX11_194 dX11_stackIs_88 ?_
      exact Mh_ret dX11_stackIs_91 rfl (fun _ => rfl) rfl
    refine Mh_ite (C := l2 = 4) rfl (fun hs4 => ?_) (fun hs4 => ?_)
    · refine Mh_tsi (off := 71) (tgt := 92) dX11_stackIs_21 (by rw [hs4]; decide) (by rw [hs4]; decide) (by rw [hs4]; decide) (by decide) ?_
      refine Mh_aload_n 0 rfl dX11_stackIs_92 ?_
      refine Mh_gI fd_7_5 fl_RX11_197 dX11_stackIs_93 ?_
      exact Mh_ret dX11_stackIs_96 rfl (fun _ => rfl) rfl
    refine Mh_ite (C := l2 = 5) rfl (fun hs5 => ?_) (fun hs5 => ?_)
    · refine Mh_tsi (off := 76) (tgt := 97) dX11_stackIs_21 (by rw [hs5]; decide) (by rw [hs5]; decide) (by rw [hs5]; decide) (by decide) ?_
      refine Mh_aload_n 0 rfl dX11_stackIs_97 ?_
      refine Mh_gI fd_7_6 fl_RX11_200 dX11_stackIs_98 ?_
      exact Mh_ret dX11_stackIs_101 rfl (fun _ => rfl) rfl
    refine Mh_ite (C := l2 = 6) rfl (fun hs6 => ?_) (fun hs6 => ?_)
    · refine Mh_tsi (off := 81) (tgt := 102) dX11_stackIs_21 (by rw [hs6]; decide) (by rw [hs6]; decide) (by rw [hs6]; decide) (by decide) ?_
      refine Mh_aload_n 0 rfl dX11_stackIs_102 ?_
      refine Mh_gI fd_7_7 fl_RX11_203 dX11_stackIs_103 ?_
      refine Mh_if_eq (tgt := 113) dX11_stackIs_106 (by decide) rfl (fun _ => ?_) (fun _ => ?_)
      · refine Mh_iconst (v := 0) dX11_stackIs_113 (by decide) ?_
        refine Mh_sub (lv' := []) [] rfl ?_
        exact t_X11_stackIs_114 l E c0 s0 _ _ _
      · refine Mh_iconst (v := 1) dX11_stackIs_109 (by decide) ?_
        refine Mh_goto (tgt := 114) dX11_stackIs_110 (by decide) ?_
        refine Mh_sub (lv' := []) [] rfl ?_
        exact t_X11_stackIs_114 l E c0 s0 _ _ _
    refine Mh_tsd (tgt := 115) [0, 1, 2, 3, 4, 5, 6] dX11_stackIs_21 (by decide) (by decide) (List.forall_mem_cons.mpr ⟨lv_neT hs0 (by decide), List.forall_mem_cons.mpr ⟨lv_neT hs1 (by decide), List.forall_mem_cons.mpr ⟨lv_neT hs2 (by decide), List.forall_mem_cons.mpr ⟨lv_neT hs3 (by decide), List.forall_mem_cons.mpr ⟨lv_neT hs4 (by decide), List.forall_mem_cons.mpr ⟨lv_neT hs5 (by decide), List.forall_mem_cons.mpr ⟨lv_neT hs6 (by decide), fun _ h => absurd h List.not_mem_nil⟩⟩⟩⟩⟩⟩⟩) (by decide) ?_
    refine Mh_iconst (v := (-1)) dX11_stackIs_115 (by decide) ?_
    exact Mh_ret dX11_stackIs_116 rfl (fun _ => rfl) rfl
  · refine Mh_iconst (v := (-1)) dX11_stackIs_8 (by decide) ?_
    exact Mh_ret dX11_stackIs_9 rfl (fun _ => rfl) rfl
def f_X11_stackIs_0 (l0 : Nat) (l1 : Int32) (l2 : Int32) (m : Mm) (o : Prop) : Int32 × Mm × Prop := bnd (F_X11_hasStack l0 l1 m (o ∧ gT m l0 = 11)) (fun v1 m1 o1 => f_X11_stackIs_5 l0 l1 l2 v1 m1 o1)
set_option maxRecDepth 10000 in
theorem t_X11_stackIs_0 (l : Launch) (E : En) (c0 s0 : Nat) (l0 : Nat) (l1 : Int32) (l2 : Int32) (m : Mm) (o : Prop) : Mh wI l E mi_X11_stackIs c0 s0 0 [(0, .ref l0), (1, .int l1), (2, .int l2)] [] m o (f_X11_stackIs_0 l0 l1 l2 m o) := by
  refine Mh_aload_n 0 rfl dX11_stackIs_0 ?_
  refine Mh_iload_n 1 rfl dX11_stackIs_1 ?_
  refine Mh_cvI (N := mi_X11_hasStack) (q := l0) (ci := 10) (as := [.int l1]) (st := []) (id) cg_yX11_hasStack (by decide) rfl rfl ml_RX11_166 iv_yX11_hasStack pd_yX11_hasStack rfl (by decide) (Nat.le_of_ble_eq_true rfl) rfl dX11_stackIs_2 (T_X11_hasStack l E _ _ _ _) rfl ?_
  exact t_X11_stackIs_5 l E c0 s0 _ _ _ _ _ _
def F_X11_stackIs (a0 : Nat) (a1 : Int32) (a2 : Int32) (m : Mm) (o : Prop) : Int32 × Mm × Prop := f_X11_stackIs_0 a0 a1 a2 m o
theorem T_X11_stackIs (l : Launch) (E : En) (a0 : Nat) (a1 : Int32) (a2 : Int32) (m : Mm) (o : Prop) : Mt wI l E yX11_stackIs mi_X11_stackIs [.ref a0, .int a1, .int a2] m o (F_X11_stackIs a0 a1 a2 m o) :=
  Mt_I (by decide) rfl rfl rfl (Nat.le_of_ble_eq_true rfl) rfl (.inl rfl) (t_X11_stackIs_0 l E _ _ _ _ _ _ _)
def f_X7_canJoin_59 (y0 : Int32) (m : Mm) (o : Prop) : Int32 × Mm × Prop := (y0, m, o ∧ (y0 = 0 ∨ y0 = 1))
set_option maxRecDepth 10000 in
theorem t_X7_canJoin_59 (l : Launch) (E : En) (c0 s0 : Nat) (y0 : Int32) (m : Mm) (o : Prop) : Mh wI l E mi_X7_canJoin c0 s0 59 [] [.int y0] m o (f_X7_canJoin_59 y0 m o) := by
  exact Mh_retZ dX7_canJoin_59 (.inl rfl) rfl
def f_X7_canJoin_58 (m : Mm) (o : Prop) : Int32 × Mm × Prop := f_X7_canJoin_59 (0 : Int32) m o
set_option maxRecDepth 10000 in
theorem t_X7_canJoin_58 (l : Launch) (E : En) (c0 s0 : Nat) (m : Mm) (o : Prop) : Mh wI l E mi_X7_canJoin c0 s0 58 [] [] m o (f_X7_canJoin_58  m o) := by
  refine Mh_iconst (v := 0) dX7_canJoin_58 (by decide) ?_
  exact t_X7_canJoin_59 l E c0 s0 _ _ _
def f_X7_canJoin_0 (l0 : Nat) (l1 : Nat) (l2 : Int32) (m : Mm) (o : Prop) : Int32 × Mm × Prop := if (gI m l0 7) = 0 then (f_X7_canJoin_58  m (o ∧ gT m l0 = 8)) else (if (gI m l1 7) = 0 then (f_X7_canJoin_58  m ((o ∧ gT m l0 = 8) ∧ gT m l1 = 8)) else (if (gI m l0 2) = (gI m l1 2) then (if l2 < ((if 0 ≤ ((gI m l0 0) - (gI m l1 0)) then ((gI m l0 0) - (gI m l1 0)) else 0 - ((gI m l0 0) - (gI m l1 0))) + (if 0 ≤ ((gI m l0 1) - (gI m l1 1)) then ((gI m l0 1) - (gI m l1 1)) else 0 - ((gI m l0 1) - (gI m l1 1)))) then (f_X7_canJoin_58  m ((o ∧ gT m l0 = 8) ∧ gT m l1 = 8)) else (f_X7_canJoin_59 (1 : Int32) m ((o ∧ gT m l0 = 8) ∧ gT m l1 = 8))) else (f_X7_canJoin_58  m ((o ∧ gT m l0 = 8) ∧ gT m l1 = 8))))
set_option maxRecDepth 10000 in
theorem t_X7_canJoin_0 (l : Launch) (E : En) (c0 s0 : Nat) (l0 : Nat) (l1 : Nat) (l2 : Int32) (m : Mm) (o : Prop) : Mh wI l E mi_X7_canJoin c0 s0 0 [(0, .ref l0), (1, .ref l1), (2, .int l2)] [] m o (f_X7_canJoin_0 l0 l1 l2 m o) := by
  refine Mh_aload_n 0 rfl dX7_canJoin_0 ?_
  refine Mh_gI fd_7_7 fl_RX7_37 dX7_canJoin_1 ?_
  refine Mh_if_eq (tgt := 58) dX7_canJoin_4 (by decide) rfl (fun _ => ?_) (fun _ => ?_)
  · refine Mh_sub (lv' := []) [] rfl ?_
    exact t_X7_canJoin_58 l E c0 s0  _ _
  · refine Mh_aload_n 1 rfl dX7_canJoin_7 ?_
    refine Mh_gI fd_7_7 fl_RX7_37 dX7_canJoin_8 ?_
    refine Mh_if_eq (tgt := 58) dX7_canJoin_11 (by decide) rfl (fun _ => ?_) (fun _ => ?_)
    · refine Mh_sub (lv' := []) [] rfl ?_
      exact t_X7_canJoin_58 l E c0 s0  _ _
    · refine Mh_aload_n 0 rfl dX7_canJoin_14 ?_
      refine Mh_gI fd_7_2 fl_RX7_22 dX7_canJoin_15 ?_
      refine Mh_ok (fun h => h.1.2) ?_
      refine Mh_aload_n 1 rfl dX7_canJoin_18 ?_
      refine Mh_gI fd_7_2 fl_RX7_22 dX7_canJoin_19 ?_
      refine Mh_ok (fun h => h.2) ?_
      refine Mh_icmp_ne (tgt := 58) dX7_canJoin_22 (by decide) rfl (fun _ => ?_) (fun _ => ?_)
      · refine Mh_sub (lv' := []) [] rfl ?_
        exact t_X7_canJoin_58 l E c0 s0  _ _
      · refine Mh_aload_n 0 rfl dX7_canJoin_25 ?_
        refine Mh_gI fd_7_0 fl_RX7_15 dX7_canJoin_26 ?_
        refine Mh_ok (fun h => h.1.2) ?_
        refine Mh_aload_n 1 rfl dX7_canJoin_29 ?_
        refine Mh_gI fd_7_0 fl_RX7_15 dX7_canJoin_30 ?_
        refine Mh_ok (fun h => h.2) ?_
        refine Mh_isub dX7_canJoin_33 ?_
        refine Mh_abs (by decide) ml_RX7_47 ma_abs_1 ma_2 ma_abs_3 (Nat.le_of_ble_eq_true rfl) dX7_canJoin_34 ?_
        refine Mh_aload_n 0 rfl dX7_canJoin_37 ?_
        refine Mh_gI fd_7_1 fl_RX7_19 dX7_canJoin_38 ?_
        refine Mh_ok (fun h => h.1.2) ?_
        refine Mh_aload_n 1 rfl dX7_canJoin_41 ?_
        refine Mh_gI fd_7_1 fl_RX7_19 dX7_canJoin_42 ?_
        refine Mh_ok (fun h => h.2) ?_
        refine Mh_isub dX7_canJoin_45 ?_
        refine Mh_abs (by decide) ml_RX7_47 ma_abs_1 ma_2 ma_abs_3 (Nat.le_of_ble_eq_true rfl) dX7_canJoin_46 ?_
        refine Mh_iadd dX7_canJoin_49 ?_
        refine Mh_iload_n 2 rfl dX7_canJoin_50 ?_
        refine Mh_icmp_gt (tgt := 58) dX7_canJoin_51 (by decide) rfl (fun _ => ?_) (fun _ => ?_)
        · refine Mh_sub (lv' := []) [] rfl ?_
          exact t_X7_canJoin_58 l E c0 s0  _ _
        · refine Mh_iconst (v := 1) dX7_canJoin_54 (by decide) ?_
          refine Mh_goto (tgt := 59) dX7_canJoin_55 (by decide) ?_
          refine Mh_sub (lv' := []) [] rfl ?_
          exact t_X7_canJoin_59 l E c0 s0 _ _ _
def F_X7_canJoin (a0 : Nat) (a1 : Nat) (a2 : Int32) (m : Mm) (o : Prop) : Int32 × Mm × Prop := f_X7_canJoin_0 a0 a1 a2 m o
theorem T_X7_canJoin (l : Launch) (E : En) (a0 : Nat) (a1 : Nat) (a2 : Int32) (m : Mm) (o : Prop) : Mt wI l E yX7_canJoin mi_X7_canJoin [.ref a0, .ref a1, .int a2] m o (F_X7_canJoin a0 a1 a2 m o) :=
  Mt_I (by decide) rfl rfl rfl (Nat.le_of_ble_eq_true rfl) rfl (.inr (.inl rfl)) (t_X7_canJoin_0 l E _ _ _ _ _ _ _)
def f_X7_takeIn_55 (m : Mm) (o : Prop) : Unit × Mm × Prop := ((), m, o)
set_option maxRecDepth 10000 in
theorem t_X7_takeIn_55 (l : Launch) (E : En) (c0 s0 : Nat) (m : Mm) (o : Prop) : Mh wU l E mi_X7_takeIn c0 s0 55 [] [] m o (f_X7_takeIn_55  m o) := by
  exact Mh_ret dX7_takeIn_55 rfl (fun _ => trivial) rfl
def f_X7_takeIn_51 (l1 : Nat) (m : Mm) (o : Prop) : Unit × Mm × Prop := bnd (F_X7_vanish l1 m (o ∧ gT m l1 = 8)) (fun _ m1 o1 => f_X7_takeIn_55  m1 o1)
set_option maxRecDepth 10000 in
theorem t_X7_takeIn_51 (l : Launch) (E : En) (c0 s0 : Nat) (l1 : Nat) (m : Mm) (o : Prop) : Mh wU l E mi_X7_takeIn c0 s0 51 [(1, .ref l1)] [] m o (f_X7_takeIn_51 l1 m o) := by
  refine Mh_aload_n 0 rfl dX7_takeIn_51 ?_
  refine Mh_cvU (N := mi_X7_vanish) (q := l1) (ci := 7) (as := []) (st := []) (id) cg_yX7_vanish (by decide) rfl rfl ml_RX7_58 iv_yX7_vanish pd_yX7_vanish rfl (by decide) (Nat.le_of_ble_eq_true rfl) rfl dX7_takeIn_52 (T_X7_vanish l E _ _ _) rfl ?_
  refine Mh_sub (lv' := []) [] rfl ?_
  exact t_X7_takeIn_55 l E c0 s0  _ _
def f_X7_takeIn_36 (l0 : Nat) (l1 : Nat) (m : Mm) (o : Prop) : Unit × Mm × Prop := f_X7_takeIn_51 l1 (sI m l0 6 (if (gI m l0 6) < (gI m l1 6) then (gI m l1 6) else (gI m l0 6))) ((o ∧ gT m l0 = 8) ∧ gT m l1 = 8)
set_option maxRecDepth 10000 in
theorem t_X7_takeIn_36 (l : Launch) (E : En) (c0 s0 : Nat) (l0 : Nat) (l1 : Nat) (m : Mm) (o : Prop) : Mh wU l E mi_X7_takeIn c0 s0 36 [(0, .ref l0), (1, .ref l1)] [] m o (f_X7_takeIn_36 l0 l1 m o) := by
  refine Mh_aload_n 0 rfl dX7_takeIn_36 ?_
  refine Mh_aload_n 0 rfl dX7_takeIn_37 ?_
  refine Mh_gI fd_7_6 fl_RX7_34 dX7_takeIn_38 ?_
  refine Mh_aload_n 1 rfl dX7_takeIn_41 ?_
  refine Mh_gI fd_7_6 fl_RX7_34 dX7_takeIn_42 ?_
  refine Mh_max (by decide) ml_RX7_55 ma_max_1 ma_2 ma_max_3 (Nat.le_of_ble_eq_true rfl) dX7_takeIn_45 ?_
  refine Mh_pI fd_7_6 ft_7 rfl fl_RX7_34 rfl dX7_takeIn_48 ?_
  refine Mh_ok (fun h => h.1.2) ?_
  refine Mh_sub (lv' := [(1, .ref l1)]) [1] rfl ?_
  exact t_X7_takeIn_51 l E c0 s0 _ _ _
def f_X7_takeIn_21 (l0 : Nat) (l1 : Nat) (m : Mm) (o : Prop) : Unit × Mm × Prop := f_X7_takeIn_36 l0 l1 (sI m l0 5 (if (gI m l0 5) < (gI m l1 5) then (gI m l1 5) else (gI m l0 5))) ((o ∧ gT m l0 = 8) ∧ gT m l1 = 8)
set_option maxRecDepth 10000 in
theorem t_X7_takeIn_21 (l : Launch) (E : En) (c0 s0 : Nat) (l0 : Nat) (l1 : Nat) (m : Mm) (o : Prop) : Mh wU l E mi_X7_takeIn c0 s0 21 [(0, .ref l0), (1, .ref l1)] [] m o (f_X7_takeIn_21 l0 l1 m o) := by
  refine Mh_aload_n 0 rfl dX7_takeIn_21 ?_
  refine Mh_aload_n 0 rfl dX7_takeIn_22 ?_
  refine Mh_gI fd_7_5 fl_RX7_31 dX7_takeIn_23 ?_
  refine Mh_aload_n 1 rfl dX7_takeIn_26 ?_
  refine Mh_gI fd_7_5 fl_RX7_31 dX7_takeIn_27 ?_
  refine Mh_max (by decide) ml_RX7_55 ma_max_1 ma_2 ma_max_3 (Nat.le_of_ble_eq_true rfl) dX7_takeIn_30 ?_
  refine Mh_pI fd_7_5 ft_7 rfl fl_RX7_31 rfl dX7_takeIn_33 ?_
  refine Mh_ok (fun h => h.1.2) ?_
  exact t_X7_takeIn_36 l E c0 s0 _ _ _ _
def f_X7_takeIn_13 (l0 : Nat) (l1 : Nat) (m : Mm) (o : Prop) : Unit × Mm × Prop := bnd (F_X7_addClover l0 (gI m l1 4) m ((o ∧ gT m l1 = 8) ∧ gT m l0 = 8)) (fun _ m1 o1 => f_X7_takeIn_21 l0 l1 m1 o1)
set_option maxRecDepth 10000 in
theorem t_X7_takeIn_13 (l : Launch) (E : En) (c0 s0 : Nat) (l0 : Nat) (l1 : Nat) (m : Mm) (o : Prop) : Mh wU l E mi_X7_takeIn c0 s0 13 [(0, .ref l0), (1, .ref l1)] [] m o (f_X7_takeIn_13 l0 l1 m o) := by
  refine Mh_aload_n 0 rfl dX7_takeIn_13 ?_
  refine Mh_aload_n 1 rfl dX7_takeIn_14 ?_
  refine Mh_gI fd_7_4 fl_RX7_28 dX7_takeIn_15 ?_
  refine Mh_cvU (N := mi_X7_addClover) (q := l0) (ci := 7) (as := [.int (gI m l1 4)]) (st := []) (id) cg_yX7_addClover (by decide) rfl rfl ml_RX7_51 iv_yX7_addClover pd_yX7_addClover rfl (by decide) (Nat.le_of_ble_eq_true rfl) rfl dX7_takeIn_18 (T_X7_addClover l E _ _ _ _) rfl ?_
  exact t_X7_takeIn_21 l E c0 s0 _ _ _ _
def f_X7_takeIn_0 (l0 : Nat) (l1 : Nat) (m : Mm) (o : Prop) : Unit × Mm × Prop := f_X7_takeIn_13 l0 l1 (sI m l0 3 ((gI m l0 3) + (gI m l1 3))) ((o ∧ gT m l0 = 8) ∧ gT m l1 = 8)
set_option maxRecDepth 10000 in
theorem t_X7_takeIn_0 (l : Launch) (E : En) (c0 s0 : Nat) (l0 : Nat) (l1 : Nat) (m : Mm) (o : Prop) : Mh wU l E mi_X7_takeIn c0 s0 0 [(0, .ref l0), (1, .ref l1)] [] m o (f_X7_takeIn_0 l0 l1 m o) := by
  refine Mh_aload_n 0 rfl dX7_takeIn_0 ?_
  refine Mh_dup dX7_takeIn_1 rfl ?_
  refine Mh_gI fd_7_3 fl_RX7_25 dX7_takeIn_2 ?_
  refine Mh_aload_n 1 rfl dX7_takeIn_5 ?_
  refine Mh_gI fd_7_3 fl_RX7_25 dX7_takeIn_6 ?_
  refine Mh_iadd dX7_takeIn_9 ?_
  refine Mh_pI fd_7_3 ft_7 rfl fl_RX7_25 rfl dX7_takeIn_10 ?_
  refine Mh_ok (fun h => h.1.2) ?_
  exact t_X7_takeIn_13 l E c0 s0 _ _ _ _
def F_X7_takeIn (a0 : Nat) (a1 : Nat) (m : Mm) (o : Prop) : Unit × Mm × Prop := f_X7_takeIn_0 a0 a1 m o
theorem T_X7_takeIn (l : Launch) (E : En) (a0 : Nat) (a1 : Nat) (m : Mm) (o : Prop) : Mt wU l E yX7_takeIn mi_X7_takeIn [.ref a0, .ref a1] m o (F_X7_takeIn a0 a1 m o) :=
  Mt_U (by decide) rfl (fun h => by cases h) rfl (Nat.le_of_ble_eq_true rfl) rfl (t_X7_takeIn_0 l E _ _ _ _ _ _)
def f_X5_joinWithin_65 (k4 : Nat → Int32 → Int32 → Int32 → Mm → Prop → Int32 × Mm × Prop) (k17 : Nat → Int32 → Int32 → Int32 → Int32 → Mm → Prop → Int32 × Mm × Prop) (l0 : Nat) (l1 : Int32) (l2 : Int32) (l3 : Int32) (l4 : Int32) (m : Mm) (o : Prop) : Int32 × Mm × Prop := k17 l0 l1 l2 l3 (l4 + 1) m o
set_option maxRecDepth 10000 in
theorem t_X5_joinWithin_65 (l : Launch) (E : En) (c0 s0 : Nat) (k4 : Nat → Int32 → Int32 → Int32 → Mm → Prop → Int32 × Mm × Prop) (hk4 : ∀ (l0 : Nat) (l1 : Int32) (l2 : Int32) (l3 : Int32) (m : Mm) (o : Prop), Mh wI l E mi_X5_joinWithin c0 s0 4 [(0, .ref l0), (1, .int l1), (2, .int l2), (3, .int l3)] [] m o (k4 l0 l1 l2 l3 m o)) (k17 : Nat → Int32 → Int32 → Int32 → Int32 → Mm → Prop → Int32 × Mm × Prop) (hk17 : ∀ (l0 : Nat) (l1 : Int32) (l2 : Int32) (l3 : Int32) (l4 : Int32) (m : Mm) (o : Prop), Mh wI l E mi_X5_joinWithin c0 s0 17 [(0, .ref l0), (1, .int l1), (2, .int l2), (3, .int l3), (4, .int l4)] [] m o (k17 l0 l1 l2 l3 l4 m o)) (l0 : Nat) (l1 : Int32) (l2 : Int32) (l3 : Int32) (l4 : Int32) (m : Mm) (o : Prop) : Mh wI l E mi_X5_joinWithin c0 s0 65 [(0, .ref l0), (1, .int l1), (2, .int l2), (3, .int l3), (4, .int l4)] [] m o (f_X5_joinWithin_65 k4 k17 l0 l1 l2 l3 l4 m o) := by
  refine Mh_iinc (v := l4 + 1) (lv' := [(4, .int (l4 + 1)), (0, .ref l0), (1, .int l1), (2, .int l2), (3, .int l3)]) 4 dX5_joinWithin_65 rfl rfl (Nat.le_of_ble_eq_true rfl) rfl ?_
  refine Mh_goto (tgt := 17) dX5_joinWithin_68 (by decide) ?_
  refine Mh_sub (lv' := [(0, .ref l0), (1, .int l1), (2, .int l2), (3, .int l3), (4, .int (l4 + 1))]) [1, 2, 3, 4, 0] rfl ?_
  exact hk17 _ _ _ _ _ _ _
def f_X5_joinWithin_62 (k4 : Nat → Int32 → Int32 → Int32 → Mm → Prop → Int32 × Mm × Prop) (k17 : Nat → Int32 → Int32 → Int32 → Int32 → Mm → Prop → Int32 × Mm × Prop) (l0 : Nat) (l1 : Int32) (l2 : Int32) (l3 : Int32) (l4 : Int32) (m : Mm) (o : Prop) : Int32 × Mm × Prop := f_X5_joinWithin_65 k4 k17 l0 l1 (l2 + 1) l3 l4 m o
set_option maxRecDepth 10000 in
theorem t_X5_joinWithin_62 (l : Launch) (E : En) (c0 s0 : Nat) (k4 : Nat → Int32 → Int32 → Int32 → Mm → Prop → Int32 × Mm × Prop) (hk4 : ∀ (l0 : Nat) (l1 : Int32) (l2 : Int32) (l3 : Int32) (m : Mm) (o : Prop), Mh wI l E mi_X5_joinWithin c0 s0 4 [(0, .ref l0), (1, .int l1), (2, .int l2), (3, .int l3)] [] m o (k4 l0 l1 l2 l3 m o)) (k17 : Nat → Int32 → Int32 → Int32 → Int32 → Mm → Prop → Int32 × Mm × Prop) (hk17 : ∀ (l0 : Nat) (l1 : Int32) (l2 : Int32) (l3 : Int32) (l4 : Int32) (m : Mm) (o : Prop), Mh wI l E mi_X5_joinWithin c0 s0 17 [(0, .ref l0), (1, .int l1), (2, .int l2), (3, .int l3), (4, .int l4)] [] m o (k17 l0 l1 l2 l3 l4 m o)) (l0 : Nat) (l1 : Int32) (l2 : Int32) (l3 : Int32) (l4 : Int32) (m : Mm) (o : Prop) : Mh wI l E mi_X5_joinWithin c0 s0 62 [(0, .ref l0), (1, .int l1), (2, .int l2), (3, .int l3), (4, .int l4)] [] m o (f_X5_joinWithin_62 k4 k17 l0 l1 l2 l3 l4 m o) := by
  refine Mh_iinc (v := l2 + 1) (lv' := [(2, .int (l2 + 1)), (0, .ref l0), (1, .int l1), (3, .int l3), (4, .int l4)]) 2 dX5_joinWithin_62 rfl rfl (Nat.le_of_ble_eq_true rfl) rfl ?_
  refine Mh_sub (lv' := [(0, .ref l0), (1, .int l1), (2, .int (l2 + 1)), (3, .int l3), (4, .int l4)]) [1, 2, 0, 3, 4] rfl ?_
  exact t_X5_joinWithin_65 l E c0 s0 k4 hk4 k17 hk17 _ _ _ _ _ _ _
def f_X5_joinWithin_43 (k4 : Nat → Int32 → Int32 → Int32 → Mm → Prop → Int32 × Mm × Prop) (k17 : Nat → Int32 → Int32 → Int32 → Int32 → Mm → Prop → Int32 × Mm × Prop) (l0 : Nat) (l1 : Int32) (l2 : Int32) (l3 : Int32) (l4 : Int32) (y0 : Int32) (m : Mm) (o : Prop) : Int32 × Mm × Prop := if y0 = 0 then (f_X5_joinWithin_65 k4 k17 l0 l1 l2 l3 l4 m o) else (bnd (F_X7_takeIn (gR m (gR m l0 0) (ix l3)) (gR m (gR m l0 0) (ix l4)) m ((((o ∧ (gT m l0 = 6 ∧ gR m l0 0 ≠ 0)) ∧ (gT m (gR m l0 0) = 24 ∧ vp_in l3 (gN m (gR m l0 0)) ∧ gR m (gR m l0 0) (ix l3) ≠ 0)) ∧ (gT m (gR m l0 0) = 24 ∧ vp_in l4 (gN m (gR m l0 0)) ∧ gR m (gR m l0 0) (ix l4) ≠ 0)) ∧ gT m (gR m (gR m l0 0) (ix l3)) = 8)) (fun _ m1 o1 => f_X5_joinWithin_62 k4 k17 l0 l1 l2 l3 l4 m1 o1))
set_option maxRecDepth 10000 in
theorem t_X5_joinWithin_43 (l : Launch) (E : En) (c0 s0 : Nat) (k4 : Nat → Int32 → Int32 → Int32 → Mm → Prop → Int32 × Mm × Prop) (hk4 : ∀ (l0 : Nat) (l1 : Int32) (l2 : Int32) (l3 : Int32) (m : Mm) (o : Prop), Mh wI l E mi_X5_joinWithin c0 s0 4 [(0, .ref l0), (1, .int l1), (2, .int l2), (3, .int l3)] [] m o (k4 l0 l1 l2 l3 m o)) (k17 : Nat → Int32 → Int32 → Int32 → Int32 → Mm → Prop → Int32 × Mm × Prop) (hk17 : ∀ (l0 : Nat) (l1 : Int32) (l2 : Int32) (l3 : Int32) (l4 : Int32) (m : Mm) (o : Prop), Mh wI l E mi_X5_joinWithin c0 s0 17 [(0, .ref l0), (1, .int l1), (2, .int l2), (3, .int l3), (4, .int l4)] [] m o (k17 l0 l1 l2 l3 l4 m o)) (l0 : Nat) (l1 : Int32) (l2 : Int32) (l3 : Int32) (l4 : Int32) (y0 : Int32) (m : Mm) (o : Prop) : Mh wI l E mi_X5_joinWithin c0 s0 43 [(0, .ref l0), (1, .int l1), (2, .int l2), (3, .int l3), (4, .int l4)] [.int y0] m o (f_X5_joinWithin_43 k4 k17 l0 l1 l2 l3 l4 y0 m o) := by
  refine Mh_if_eq (tgt := 65) dX5_joinWithin_43 (by decide) rfl (fun _ => ?_) (fun _ => ?_)
  · exact t_X5_joinWithin_65 l E c0 s0 k4 hk4 k17 hk17 _ _ _ _ _ _ _
  · refine Mh_aload_n 0 rfl dX5_joinWithin_46 ?_
    refine Mh_gR fd_5_0 fl_RX5_11 dX5_joinWithin_47 ?_
    refine Mh_iload_n 3 rfl dX5_joinWithin_50 ?_
    refine Mh_aal 24 (.inl rfl) dX5_joinWithin_51 ?_
    refine Mh_aload_n 0 rfl dX5_joinWithin_52 ?_
    refine Mh_gR fd_5_0 fl_RX5_11 dX5_joinWithin_53 ?_
    refine Mh_ok (fun h => h.1.2) ?_
    refine Mh_iload 4 rfl dX5_joinWithin_56 ?_
    refine Mh_aal 24 (.inl rfl) dX5_joinWithin_58 ?_
    refine Mh_cvU (N := mi_X7_takeIn) (q := gR m (gR m l0 0) (ix l3)) (ci := 7) (as := [.ref (gR m (gR m l0 0) (ix l4))]) (st := []) (id) cg_yX7_takeIn (by decide) rfl rfl ml_RX5_140 iv_yX7_takeIn pd_yX7_takeIn rfl (by decide) (Nat.le_of_ble_eq_true rfl) rfl dX5_joinWithin_59 (T_X7_takeIn l E _ _ _ _) rfl ?_
    exact t_X5_joinWithin_62 l E c0 s0 k4 hk4 k17 hk17 _ _ _ _ _ _ _
def f_X5_joinWithin_17b (k4 : Nat → Int32 → Int32 → Int32 → Mm → Prop → Int32 × Mm × Prop) (k17 : Nat → Int32 → Int32 → Int32 → Int32 → Mm → Prop → Int32 × Mm × Prop) (l0 : Nat) (l1 : Int32) (l2 : Int32) (l3 : Int32) (l4 : Int32) (m : Mm) (o : Prop) : Int32 × Mm × Prop := if (gI m l0 6) ≤ l4 then (k4 l0 l1 l2 (l3 + 1) m (o ∧ gT m l0 = 6)) else (bnd (F_X7_canJoin (gR m (gR m l0 0) (ix l3)) (gR m (gR m l0 0) (ix l4)) l1 m (((((o ∧ gT m l0 = 6) ∧ (gT m l0 = 6 ∧ gR m l0 0 ≠ 0)) ∧ (gT m (gR m l0 0) = 24 ∧ vp_in l3 (gN m (gR m l0 0)) ∧ gR m (gR m l0 0) (ix l3) ≠ 0)) ∧ (gT m (gR m l0 0) = 24 ∧ vp_in l4 (gN m (gR m l0 0)) ∧ gR m (gR m l0 0) (ix l4) ≠ 0)) ∧ gT m (gR m (gR m l0 0) (ix l3)) = 8)) (fun v1 m1 o1 => f_X5_joinWithin_43 k4 k17 l0 l1 l2 l3 l4 v1 m1 o1))
set_option maxRecDepth 10000 in
theorem t_X5_joinWithin_17b (l : Launch) (E : En) (c0 s0 : Nat) (k4 : Nat → Int32 → Int32 → Int32 → Mm → Prop → Int32 × Mm × Prop) (hk4 : ∀ (l0 : Nat) (l1 : Int32) (l2 : Int32) (l3 : Int32) (m : Mm) (o : Prop), Mh wI l E mi_X5_joinWithin c0 s0 4 [(0, .ref l0), (1, .int l1), (2, .int l2), (3, .int l3)] [] m o (k4 l0 l1 l2 l3 m o)) (k17 : Nat → Int32 → Int32 → Int32 → Int32 → Mm → Prop → Int32 × Mm × Prop) (hk17 : ∀ (l0 : Nat) (l1 : Int32) (l2 : Int32) (l3 : Int32) (l4 : Int32) (m : Mm) (o : Prop), Mh wI l E mi_X5_joinWithin c0 s0 17 [(0, .ref l0), (1, .int l1), (2, .int l2), (3, .int l3), (4, .int l4)] [] m o (k17 l0 l1 l2 l3 l4 m o)) (l0 : Nat) (l1 : Int32) (l2 : Int32) (l3 : Int32) (l4 : Int32) (m : Mm) (o : Prop) : Mh wI l E mi_X5_joinWithin c0 s0 17 [(0, .ref l0), (1, .int l1), (2, .int l2), (3, .int l3), (4, .int l4)] [] m o (f_X5_joinWithin_17b k4 k17 l0 l1 l2 l3 l4 m o) := by
  refine Mh_iload 4 rfl dX5_joinWithin_17 ?_
  refine Mh_aload_n 0 rfl dX5_joinWithin_19 ?_
  refine Mh_gI fd_5_6 fl_RX5_48 dX5_joinWithin_20 ?_
  refine Mh_icmp_ge (tgt := 71) dX5_joinWithin_23 (by decide) rfl (fun _ => ?_) (fun _ => ?_)
  · refine Mh_iinc (v := l3 + 1) (lv' := [(3, .int (l3 + 1)), (0, .ref l0), (1, .int l1), (2, .int l2), (4, .int l4)]) 3 dX5_joinWithin_71 rfl rfl (Nat.le_of_ble_eq_true rfl) rfl ?_
    refine Mh_goto (tgt := 4) dX5_joinWithin_74 (by decide) ?_
    refine Mh_sub (lv' := [(0, .ref l0), (1, .int l1), (2, .int l2), (3, .int (l3 + 1))]) [1, 2, 3, 0] rfl ?_
    exact hk4 _ _ _ _ _ _
  · refine Mh_aload_n 0 rfl dX5_joinWithin_26 ?_
    refine Mh_gR fd_5_0 fl_RX5_11 dX5_joinWithin_27 ?_
    refine Mh_iload_n 3 rfl dX5_joinWithin_30 ?_
    refine Mh_aal 24 (.inl rfl) dX5_joinWithin_31 ?_
    refine Mh_aload_n 0 rfl dX5_joinWithin_32 ?_
    refine Mh_gR fd_5_0 fl_RX5_11 dX5_joinWithin_33 ?_
    refine Mh_ok (fun h => h.1.2) ?_
    refine Mh_iload 4 rfl dX5_joinWithin_36 ?_
    refine Mh_aal 24 (.inl rfl) dX5_joinWithin_38 ?_
    refine Mh_iload_n 1 rfl dX5_joinWithin_39 ?_
    refine Mh_cvI (N := mi_X7_canJoin) (q := gR m (gR m l0 0) (ix l3)) (ci := 7) (as := [.ref (gR m (gR m l0 0) (ix l4)), .int l1]) (st := []) (id) cg_yX7_canJoin (by decide) rfl rfl ml_RX5_136 iv_yX7_canJoin pd_yX7_canJoin rfl (by decide) (Nat.le_of_ble_eq_true rfl) rfl dX5_joinWithin_40 (T_X7_canJoin l E _ _ _ _ _) rfl ?_
    exact t_X5_joinWithin_43 l E c0 s0 k4 hk4 k17 hk17 _ _ _ _ _ _ _ _
def f_X5_joinWithin_17 (k4 : Nat → Int32 → Int32 → Int32 → Mm → Prop → Int32 × Mm × Prop) : Nat → Nat → Int32 → Int32 → Int32 → Int32 → Mm → Prop → Int32 × Mm × Prop
  | 0, _, _, _, _, _, m, _ => (0, m, False)
  | n + 1, l0, l1, l2, l3, l4, m, o => f_X5_joinWithin_17b k4 (f_X5_joinWithin_17 k4 n) l0 l1 l2 l3 l4 m o
theorem t_X5_joinWithin_17 (l : Launch) (E : En) (c0 s0 : Nat) (k4 : Nat → Int32 → Int32 → Int32 → Mm → Prop → Int32 × Mm × Prop) (hk4 : ∀ (l0 : Nat) (l1 : Int32) (l2 : Int32) (l3 : Int32) (m : Mm) (o : Prop), Mh wI l E mi_X5_joinWithin c0 s0 4 [(0, .ref l0), (1, .int l1), (2, .int l2), (3, .int l3)] [] m o (k4 l0 l1 l2 l3 m o)) : ∀ (n : Nat) (l0 : Nat) (l1 : Int32) (l2 : Int32) (l3 : Int32) (l4 : Int32) (m : Mm) (o : Prop), Mh wI l E mi_X5_joinWithin c0 s0 17 [(0, .ref l0), (1, .int l1), (2, .int l2), (3, .int l3), (4, .int l4)] [] m o (f_X5_joinWithin_17 k4 n l0 l1 l2 l3 l4 m o)
  | 0, _, _, _, _, _, _, _ => Mh_out rfl
  | n + 1, l0, l1, l2, l3, l4, m, o => t_X5_joinWithin_17b l E c0 s0 k4 hk4 (f_X5_joinWithin_17 k4 n) (t_X5_joinWithin_17 l E c0 s0 k4 hk4 n) l0 l1 l2 l3 l4 m o
def f_X5_joinWithin_4b (k4 : Nat → Int32 → Int32 → Int32 → Mm → Prop → Int32 × Mm × Prop) (l0 : Nat) (l1 : Int32) (l2 : Int32) (l3 : Int32) (m : Mm) (o : Prop) : Int32 × Mm × Prop := if (gI m l0 6) ≤ l3 then (l2, m, (o ∧ gT m l0 = 6)) else (f_X5_joinWithin_17 k4 1000 l0 l1 l2 l3 (l3 + (1 : Int32)) m (o ∧ gT m l0 = 6))
set_option maxRecDepth 10000 in
theorem t_X5_joinWithin_4b (l : Launch) (E : En) (c0 s0 : Nat) (k4 : Nat → Int32 → Int32 → Int32 → Mm → Prop → Int32 × Mm × Prop) (hk4 : ∀ (l0 : Nat) (l1 : Int32) (l2 : Int32) (l3 : Int32) (m : Mm) (o : Prop), Mh wI l E mi_X5_joinWithin c0 s0 4 [(0, .ref l0), (1, .int l1), (2, .int l2), (3, .int l3)] [] m o (k4 l0 l1 l2 l3 m o)) (l0 : Nat) (l1 : Int32) (l2 : Int32) (l3 : Int32) (m : Mm) (o : Prop) : Mh wI l E mi_X5_joinWithin c0 s0 4 [(0, .ref l0), (1, .int l1), (2, .int l2), (3, .int l3)] [] m o (f_X5_joinWithin_4b k4 l0 l1 l2 l3 m o) := by
  refine Mh_iload_n 3 rfl dX5_joinWithin_4 ?_
  refine Mh_aload_n 0 rfl dX5_joinWithin_5 ?_
  refine Mh_gI fd_5_6 fl_RX5_48 dX5_joinWithin_6 ?_
  refine Mh_icmp_ge (tgt := 77) dX5_joinWithin_9 (by decide) rfl (fun _ => ?_) (fun _ => ?_)
  · refine Mh_iload_n 2 rfl dX5_joinWithin_77 ?_
    exact Mh_ret dX5_joinWithin_78 rfl (fun _ => rfl) rfl
  · refine Mh_iload_n 3 rfl dX5_joinWithin_12 ?_
    refine Mh_iconst (v := 1) dX5_joinWithin_13 (by decide) ?_
    refine Mh_iadd dX5_joinWithin_14 ?_
    refine Mh_istore (lv' := [(4, .int (l3 + (1 : Int32))), (0, .ref l0), (1, .int l1), (2, .int l2), (3, .int l3)]) dX5_joinWithin_15 (Nat.le_of_ble_eq_true rfl) rfl ?_
    refine Mh_sub (lv' := [(0, .ref l0), (1, .int l1), (2, .int l2), (3, .int l3), (4, .int (l3 + (1 : Int32)))]) [1, 2, 3, 4, 0] rfl ?_
    exact t_X5_joinWithin_17 l E c0 s0 k4 hk4 _ _ _ _ _ _ _ _
def f_X5_joinWithin_4 : Nat → Nat → Int32 → Int32 → Int32 → Mm → Prop → Int32 × Mm × Prop
  | 0, _, _, _, _, m, _ => (0, m, False)
  | n + 1, l0, l1, l2, l3, m, o => f_X5_joinWithin_4b (f_X5_joinWithin_4 n) l0 l1 l2 l3 m o
theorem t_X5_joinWithin_4 (l : Launch) (E : En) (c0 s0 : Nat) : ∀ (n : Nat) (l0 : Nat) (l1 : Int32) (l2 : Int32) (l3 : Int32) (m : Mm) (o : Prop), Mh wI l E mi_X5_joinWithin c0 s0 4 [(0, .ref l0), (1, .int l1), (2, .int l2), (3, .int l3)] [] m o (f_X5_joinWithin_4 n l0 l1 l2 l3 m o)
  | 0, _, _, _, _, _, _ => Mh_out rfl
  | n + 1, l0, l1, l2, l3, m, o => t_X5_joinWithin_4b l E c0 s0 (f_X5_joinWithin_4 n) (t_X5_joinWithin_4 l E c0 s0 n) l0 l1 l2 l3 m o
def f_X5_joinWithin_0 (l0 : Nat) (l1 : Int32) (m : Mm) (o : Prop) : Int32 × Mm × Prop := f_X5_joinWithin_4 1000 l0 l1 (0 : Int32) (0 : Int32) m o
set_option maxRecDepth 10000 in
theorem t_X5_joinWithin_0 (l : Launch) (E : En) (c0 s0 : Nat) (l0 : Nat) (l1 : Int32) (m : Mm) (o : Prop) : Mh wI l E mi_X5_joinWithin c0 s0 0 [(0, .ref l0), (1, .int l1)] [] m o (f_X5_joinWithin_0 l0 l1 m o) := by
  refine Mh_iconst (v := 0) dX5_joinWithin_0 (by decide) ?_
  refine Mh_istore_n (lv' := [(2, .int (0 : Int32)), (0, .ref l0), (1, .int l1)]) dX5_joinWithin_1 (Nat.le_of_ble_eq_true rfl) rfl ?_
  refine Mh_iconst (v := 0) dX5_joinWithin_2 (by decide) ?_
  refine Mh_istore_n (lv' := [(3, .int (0 : Int32)), (2, .int (0 : Int32)), (0, .ref l0), (1, .int l1)]) dX5_joinWithin_3 (Nat.le_of_ble_eq_true rfl) rfl ?_
  refine Mh_sub (lv' := [(0, .ref l0), (1, .int l1), (2, .int (0 : Int32)), (3, .int (0 : Int32))]) [2, 3, 1, 0] rfl ?_
  exact t_X5_joinWithin_4 l E c0 s0 _ _ _ _ _ _ _
def F_X5_joinWithin (a0 : Nat) (a1 : Int32) (m : Mm) (o : Prop) : Int32 × Mm × Prop := f_X5_joinWithin_0 a0 a1 m o
theorem T_X5_joinWithin (l : Launch) (E : En) (a0 : Nat) (a1 : Int32) (m : Mm) (o : Prop) : Mt wI l E yX5_joinWithin mi_X5_joinWithin [.ref a0, .int a1] m o (F_X5_joinWithin a0 a1 m o) :=
  Mt_I (by decide) rfl rfl rfl (Nat.le_of_ble_eq_true rfl) rfl (.inl rfl) (t_X5_joinWithin_0 l E _ _ _ _ _ _)
def f_X11_storm_22 (y0 : Int32) (m : Mm) (o : Prop) : Int32 × Mm × Prop := (y0, m, o)
set_option maxRecDepth 10000 in
theorem t_X11_storm_22 (l : Launch) (E : En) (c0 s0 : Nat) (y0 : Int32) (m : Mm) (o : Prop) : Mh wI l E mi_X11_storm c0 s0 22 [] [.int y0] m o (f_X11_storm_22 y0 m o) := by
  exact Mh_ret dX11_storm_22 rfl (fun _ => rfl) rfl
def f_X11_storm_18 (y0 : Int32) (m : Mm) (o : Prop) : Int32 × Mm × Prop := f_X11_storm_22 y0 m o
set_option maxRecDepth 10000 in
theorem t_X11_storm_18 (l : Launch) (E : En) (c0 s0 : Nat) (y0 : Int32) (m : Mm) (o : Prop) : Mh wI l E mi_X11_storm c0 s0 18 [] [.int y0] m o (f_X11_storm_18 y0 m o) := by
  refine Mh_goto (tgt := 22) dX11_storm_18 (by decide) ?_
  exact t_X11_storm_22 l E c0 s0 _ _ _
def f_X11_storm_7 (l0 : Nat) (l1 : Int32) (y0 : Int32) (m : Mm) (o : Prop) : Int32 × Mm × Prop := if y0 = 0 then (f_X11_storm_22 (-1 : Int32) m o) else (bnd (F_X5_joinWithin (gR m l0 0) l1 m ((o ∧ (gT m l0 = 11 ∧ gR m l0 0 ≠ 0)) ∧ gT m (gR m l0 0) = 6)) (fun v1 m1 o1 => f_X11_storm_18 v1 m1 o1))
set_option maxRecDepth 10000 in
theorem t_X11_storm_7 (l : Launch) (E : En) (c0 s0 : Nat) (l0 : Nat) (l1 : Int32) (y0 : Int32) (m : Mm) (o : Prop) : Mh wI l E mi_X11_storm c0 s0 7 [(0, .ref l0), (1, .int l1)] [.int y0] m o (f_X11_storm_7 l0 l1 y0 m o) := by
  refine Mh_if_eq (tgt := 21) dX11_storm_7 (by decide) rfl (fun _ => ?_) (fun _ => ?_)
  · refine Mh_iconst (v := (-1)) dX11_storm_21 (by decide) ?_
    refine Mh_sub (lv' := []) [] rfl ?_
    exact t_X11_storm_22 l E c0 s0 _ _ _
  · refine Mh_aload_n 0 rfl dX11_storm_10 ?_
    refine Mh_gR fd_10_0 fl_RX11_10 dX11_storm_11 ?_
    refine Mh_iload_n 1 rfl dX11_storm_14 ?_
    refine Mh_cvI (N := mi_X5_joinWithin) (q := gR m l0 0) (ci := 5) (as := [.int l1]) (st := []) (id) cg_yX5_joinWithin (by decide) rfl rfl ml_RX11_295 iv_yX5_joinWithin pd_yX5_joinWithin rfl (by decide) (Nat.le_of_ble_eq_true rfl) rfl dX11_storm_15 (T_X5_joinWithin l E _ _ _ _) rfl ?_
    refine Mh_sub (lv' := []) [] rfl ?_
    exact t_X11_storm_18 l E c0 s0 _ _ _
def f_X11_storm_0 (l0 : Nat) (l1 : Int32) (m : Mm) (o : Prop) : Int32 × Mm × Prop := bnd (F_X11_isWithin l1 (1 : Int32) (9 : Int32) m o) (fun v1 m1 o1 => f_X11_storm_7 l0 l1 v1 m1 o1)
set_option maxRecDepth 10000 in
theorem t_X11_storm_0 (l : Launch) (E : En) (c0 s0 : Nat) (l0 : Nat) (l1 : Int32) (m : Mm) (o : Prop) : Mh wI l E mi_X11_storm c0 s0 0 [(0, .ref l0), (1, .int l1)] [] m o (f_X11_storm_0 l0 l1 m o) := by
  refine Mh_iload_n 1 rfl dX11_storm_0 ?_
  refine Mh_iconst (v := 1) dX11_storm_1 (by decide) ?_
  refine Mh_bipush (v := 9) dX11_storm_2 (by decide) ?_
  refine Mh_csI (N := mi_X11_isWithin) (as := [.int l1, .int (1 : Int32), .int (9 : Int32)]) (st := []) cg_yX11_isWithin (.inl ml_RX11_90) sv_yX11_isWithin pd_yX11_isWithin rfl (by decide) (Nat.le_of_ble_eq_true rfl) rfl dX11_storm_4 (T_X11_isWithin l E _ _ _ _ _) rfl ?_
  exact t_X11_storm_7 l E c0 s0 _ _ _ _ _
def F_X11_storm (a0 : Nat) (a1 : Int32) (m : Mm) (o : Prop) : Int32 × Mm × Prop := f_X11_storm_0 a0 a1 m o
theorem T_X11_storm (l : Launch) (E : En) (a0 : Nat) (a1 : Int32) (m : Mm) (o : Prop) : Mt wI l E yX11_storm mi_X11_storm [.ref a0, .int a1] m o (F_X11_storm a0 a1 m o) :=
  Mt_I (by decide) rfl rfl rfl (Nat.le_of_ble_eq_true rfl) rfl (.inl rfl) (t_X11_storm_0 l E _ _ _ _ _ _)
def f_X11_taste_26 (m : Mm) (o : Prop) : Int32 × Mm × Prop := ((0 : Int32), m, o)
set_option maxRecDepth 10000 in
theorem t_X11_taste_26 (l : Launch) (E : En) (c0 s0 : Nat) (m : Mm) (o : Prop) : Mh wI l E mi_X11_taste c0 s0 26 [] [] m o (f_X11_taste_26  m o) := by
  refine Mh_iconst (v := 0) dX11_taste_26 (by decide) ?_
  exact Mh_ret dX11_taste_27 rfl (fun _ => rk0Z) rfl
def f_X11_taste_43 (m : Mm) (o : Prop) : Int32 × Mm × Prop := ((1 : Int32), m, o)
set_option maxRecDepth 10000 in
theorem t_X11_taste_43 (l : Launch) (E : En) (c0 s0 : Nat) (m : Mm) (o : Prop) : Mh wI l E mi_X11_taste c0 s0 43 [] [] m o (f_X11_taste_43  m o) := by
  refine Mh_iconst (v := 1) dX11_taste_43 (by decide) ?_
  exact Mh_ret dX11_taste_44 rfl (fun _ => rk1Z) rfl
def f_X11_taste_23 (l0 : Nat) (l1 : Int32) (l2 : Int32) (l3 : Int32) (y0 : Int32) (m : Mm) (o : Prop) : Int32 × Mm × Prop := if y0 = 0 then (f_X11_taste_26  m o) else (f_X11_taste_43  (sI m (gR m (gR m (gR m (gR m l0 0) 1) (ix l1)) 5) (ix l2) l3) (((((o ∧ (gT m l0 = 11 ∧ gR m l0 0 ≠ 0)) ∧ (gT m (gR m l0 0) = 6 ∧ gR m (gR m l0 0) 1 ≠ 0)) ∧ (gT m (gR m (gR m l0 0) 1) = 25 ∧ vp_in l1 (gN m (gR m (gR m l0 0) 1)) ∧ gR m (gR m (gR m l0 0) 1) (ix l1) ≠ 0)) ∧ (gT m (gR m (gR m (gR m l0 0) 1) (ix l1)) = 2 ∧ gR m (gR m (gR m (gR m l0 0) 1) (ix l1)) 5 ≠ 0)) ∧ (gT m (gR m (gR m (gR m (gR m l0 0) 1) (ix l1)) 5) = 20 ∧ vp_in l2 (gN m (gR m (gR m (gR m (gR m l0 0) 1) (ix l1)) 5)))))
set_option maxRecDepth 10000 in
theorem t_X11_taste_23 (l : Launch) (E : En) (c0 s0 : Nat) (l0 : Nat) (l1 : Int32) (l2 : Int32) (l3 : Int32) (y0 : Int32) (m : Mm) (o : Prop) : Mh wI l E mi_X11_taste c0 s0 23 [(0, .ref l0), (1, .int l1), (2, .int l2), (3, .int l3)] [.int y0] m o (f_X11_taste_23 l0 l1 l2 l3 y0 m o) := by
  refine Mh_if_ne (tgt := 28) dX11_taste_23 (by decide) rfl (fun _ => ?_) (fun _ => ?_)
  · refine Mh_aload_n 0 rfl dX11_taste_28 ?_
    refine Mh_gR fd_10_0 fl_RX11_10 dX11_taste_29 ?_
    refine Mh_gR fd_5_1 fl_RX11_114 dX11_taste_32 ?_
    refine Mh_iload_n 1 rfl dX11_taste_35 ?_
    refine Mh_aal 25 (.inr rfl) dX11_taste_36 ?_
    refine Mh_gR fd_1_5 fl_RX11_127 dX11_taste_37 ?_
    refine Mh_iload_n 2 rfl dX11_taste_40 ?_
    refine Mh_iload_n 3 rfl dX11_taste_41 ?_
    refine Mh_ias dX11_taste_42 ?_
    refine Mh_sub (lv' := []) [] rfl ?_
    exact t_X11_taste_43 l E c0 s0  _ _
  · refine Mh_sub (lv' := []) [] rfl ?_
    exact t_X11_taste_26 l E c0 s0  _ _
def f_X11_taste_12 (l0 : Nat) (l1 : Int32) (l2 : Int32) (l3 : Int32) (y0 : Int32) (m : Mm) (o : Prop) : Int32 × Mm × Prop := if y0 = 0 then (f_X11_taste_26  m o) else (bnd (F_X11_isWithin l3 (-9 : Int32) (9 : Int32) m o) (fun v1 m1 o1 => f_X11_taste_23 l0 l1 l2 l3 v1 m1 o1))
set_option maxRecDepth 10000 in
theorem t_X11_taste_12 (l : Launch) (E : En) (c0 s0 : Nat) (l0 : Nat) (l1 : Int32) (l2 : Int32) (l3 : Int32) (y0 : Int32) (m : Mm) (o : Prop) : Mh wI l E mi_X11_taste c0 s0 12 [(0, .ref l0), (1, .int l1), (2, .int l2), (3, .int l3)] [.int y0] m o (f_X11_taste_12 l0 l1 l2 l3 y0 m o) := by
  refine Mh_if_eq (tgt := 26) dX11_taste_12 (by decide) rfl (fun _ => ?_) (fun _ => ?_)
  · refine Mh_sub (lv' := []) [] rfl ?_
    exact t_X11_taste_26 l E c0 s0  _ _
  · refine Mh_iload_n 3 rfl dX11_taste_15 ?_
    refine Mh_bipush (v := (-9)) dX11_taste_16 (by decide) ?_
    refine Mh_bipush (v := 9) dX11_taste_18 (by decide) ?_
    refine Mh_csI (N := mi_X11_isWithin) (as := [.int l3, .int (-9 : Int32), .int (9 : Int32)]) (st := []) cg_yX11_isWithin (.inl ml_RX11_90) sv_yX11_isWithin pd_yX11_isWithin rfl (by decide) (Nat.le_of_ble_eq_true rfl) rfl dX11_taste_20 (T_X11_isWithin l E _ _ _ _ _) rfl ?_
    exact t_X11_taste_23 l E c0 s0 _ _ _ _ _ _ _
def f_X11_taste_5 (l0 : Nat) (l1 : Int32) (l2 : Int32) (l3 : Int32) (y0 : Int32) (m : Mm) (o : Prop) : Int32 × Mm × Prop := if y0 = 0 then (f_X11_taste_26  m o) else (bnd (F_X11_isColour l2 m o) (fun v1 m1 o1 => f_X11_taste_12 l0 l1 l2 l3 v1 m1 o1))
set_option maxRecDepth 10000 in
theorem t_X11_taste_5 (l : Launch) (E : En) (c0 s0 : Nat) (l0 : Nat) (l1 : Int32) (l2 : Int32) (l3 : Int32) (y0 : Int32) (m : Mm) (o : Prop) : Mh wI l E mi_X11_taste c0 s0 5 [(0, .ref l0), (1, .int l1), (2, .int l2), (3, .int l3)] [.int y0] m o (f_X11_taste_5 l0 l1 l2 l3 y0 m o) := by
  refine Mh_if_eq (tgt := 26) dX11_taste_5 (by decide) rfl (fun _ => ?_) (fun _ => ?_)
  · refine Mh_sub (lv' := []) [] rfl ?_
    exact t_X11_taste_26 l E c0 s0  _ _
  · refine Mh_iload_n 2 rfl dX11_taste_8 ?_
    refine Mh_csI (N := mi_X11_isColour) (as := [.int l2]) (st := []) cg_yX11_isColour (.inl ml_RX11_86) sv_yX11_isColour pd_yX11_isColour rfl (by decide) (Nat.le_of_ble_eq_true rfl) rfl dX11_taste_9 (T_X11_isColour l E _ _ _) rfl ?_
    exact t_X11_taste_12 l E c0 s0 _ _ _ _ _ _ _
def f_X11_taste_0 (l0 : Nat) (l1 : Int32) (l2 : Int32) (l3 : Int32) (m : Mm) (o : Prop) : Int32 × Mm × Prop := bnd (F_X11_hasCow l0 l1 m (o ∧ gT m l0 = 11)) (fun v1 m1 o1 => f_X11_taste_5 l0 l1 l2 l3 v1 m1 o1)
set_option maxRecDepth 10000 in
theorem t_X11_taste_0 (l : Launch) (E : En) (c0 s0 : Nat) (l0 : Nat) (l1 : Int32) (l2 : Int32) (l3 : Int32) (m : Mm) (o : Prop) : Mh wI l E mi_X11_taste c0 s0 0 [(0, .ref l0), (1, .int l1), (2, .int l2), (3, .int l3)] [] m o (f_X11_taste_0 l0 l1 l2 l3 m o) := by
  refine Mh_aload_n 0 rfl dX11_taste_0 ?_
  refine Mh_iload_n 1 rfl dX11_taste_1 ?_
  refine Mh_cvI (N := mi_X11_hasCow) (q := l0) (ci := 10) (as := [.int l1]) (st := []) (id) cg_yX11_hasCow (by decide) rfl rfl ml_RX11_124 iv_yX11_hasCow pd_yX11_hasCow rfl (by decide) (Nat.le_of_ble_eq_true rfl) rfl dX11_taste_2 (T_X11_hasCow l E _ _ _ _) rfl ?_
  exact t_X11_taste_5 l E c0 s0 _ _ _ _ _ _ _
def F_X11_taste (a0 : Nat) (a1 : Int32) (a2 : Int32) (a3 : Int32) (m : Mm) (o : Prop) : Int32 × Mm × Prop := f_X11_taste_0 a0 a1 a2 a3 m o
theorem T_X11_taste (l : Launch) (E : En) (a0 : Nat) (a1 : Int32) (a2 : Int32) (a3 : Int32) (m : Mm) (o : Prop) : Mt wI l E yX11_taste mi_X11_taste [.ref a0, .int a1, .int a2, .int a3] m o (F_X11_taste a0 a1 a2 a3 m o) :=
  Mt_I (by decide) rfl rfl rfl (Nat.le_of_ble_eq_true rfl) rfl (.inr (.inl rfl)) (t_X11_taste_0 l E _ _ _ _ _ _ _ _)
def f_X11_undo_18 (l0 : Nat) (m : Mm) (o : Prop) : Int32 × Mm × Prop := (gI m l0 11, m, (o ∧ gT m l0 = 11) ∧ ((gI m l0 11) = 0 ∨ (gI m l0 11) = 1))
set_option maxRecDepth 10000 in
theorem t_X11_undo_18 (l : Launch) (E : En) (c0 s0 : Nat) (l0 : Nat) (m : Mm) (o : Prop) : Mh wI l E mi_X11_undo c0 s0 18 [(0, .ref l0)] [] m o (f_X11_undo_18 l0 m o) := by
  refine Mh_aload_n 0 rfl dX11_undo_18 ?_
  refine Mh_gI fd_10_11 fl_RX11_78 dX11_undo_19 ?_
  exact Mh_retZ dX11_undo_22 (.inl rfl) rfl
def f_X11_undo_0 (l0 : Nat) (m : Mm) (o : Prop) : Int32 × Mm × Prop := if (gI m l0 11) = 0 then (f_X11_undo_18 l0 m (o ∧ gT m l0 = 11)) else (bnd (F_X5_copyFrom (gR m l0 0) (gR m l0 1) m ((((o ∧ gT m l0 = 11) ∧ (gT m l0 = 11 ∧ gR m l0 0 ≠ 0)) ∧ (gT m l0 = 11 ∧ gR m l0 1 ≠ 0)) ∧ gT m (gR m l0 0) = 6)) (fun _ m1 o1 => f_X11_undo_18 l0 m1 o1))
set_option maxRecDepth 10000 in
theorem t_X11_undo_0 (l : Launch) (E : En) (c0 s0 : Nat) (l0 : Nat) (m : Mm) (o : Prop) : Mh wI l E mi_X11_undo c0 s0 0 [(0, .ref l0)] [] m o (f_X11_undo_0 l0 m o) := by
  refine Mh_aload_n 0 rfl dX11_undo_0 ?_
  refine Mh_gI fd_10_11 fl_RX11_78 dX11_undo_1 ?_
  refine Mh_if_eq (tgt := 18) dX11_undo_4 (by decide) rfl (fun _ => ?_) (fun _ => ?_)
  · exact t_X11_undo_18 l E c0 s0 _ _ _
  · refine Mh_aload_n 0 rfl dX11_undo_7 ?_
    refine Mh_gR fd_10_0 fl_RX11_10 dX11_undo_8 ?_
    refine Mh_aload_n 0 rfl dX11_undo_11 ?_
    refine Mh_gR fd_10_1 fl_RX11_16 dX11_undo_12 ?_
    refine Mh_cvU (N := mi_X5_copyFrom) (q := gR m l0 0) (ci := 5) (as := [.ref (gR m l0 1)]) (st := []) (id) cg_yX5_copyFrom (by decide) rfl rfl ml_RX11_305 iv_yX5_copyFrom pd_yX5_copyFrom rfl (by decide) (Nat.le_of_ble_eq_true rfl) rfl dX11_undo_15 (T_X5_copyFrom l E _ _ _ _) rfl ?_
    exact t_X11_undo_18 l E c0 s0 _ _ _
def F_X11_undo (a0 : Nat) (m : Mm) (o : Prop) : Int32 × Mm × Prop := f_X11_undo_0 a0 m o
theorem T_X11_undo (l : Launch) (E : En) (a0 : Nat) (m : Mm) (o : Prop) : Mt wI l E yX11_undo mi_X11_undo [.ref a0] m o (F_X11_undo a0 m o) :=
  Mt_I (by decide) rfl rfl rfl (Nat.le_of_ble_eq_true rfl) rfl (.inr (.inl rfl)) (t_X11_undo_0 l E _ _ _ _ _)
def f_X11_votes_20 (y0 : Int32) (m : Mm) (o : Prop) : Int32 × Mm × Prop := (y0, m, o)
set_option maxRecDepth 10000 in
theorem t_X11_votes_20 (l : Launch) (E : En) (c0 s0 : Nat) (y0 : Int32) (m : Mm) (o : Prop) : Mh wI l E mi_X11_votes c0 s0 20 [] [.int y0] m o (f_X11_votes_20 y0 m o) := by
  exact Mh_ret dX11_votes_20 rfl (fun _ => rfl) rfl
def f_X11_votes_4 (l0 : Nat) (l1 : Int32) (y0 : Int32) (m : Mm) (o : Prop) : Int32 × Mm × Prop := if y0 = 0 then (f_X11_votes_20 (-1 : Int32) m o) else (f_X11_votes_20 (gI m (gR m (gR m l0 0) 2) (ix l1)) m (((o ∧ (gT m l0 = 11 ∧ gR m l0 0 ≠ 0)) ∧ (gT m (gR m l0 0) = 6 ∧ gR m (gR m l0 0) 2 ≠ 0)) ∧ (gT m (gR m (gR m l0 0) 2) = 20 ∧ vp_in l1 (gN m (gR m (gR m l0 0) 2)))))
set_option maxRecDepth 10000 in
theorem t_X11_votes_4 (l : Launch) (E : En) (c0 s0 : Nat) (l0 : Nat) (l1 : Int32) (y0 : Int32) (m : Mm) (o : Prop) : Mh wI l E mi_X11_votes c0 s0 4 [(0, .ref l0), (1, .int l1)] [.int y0] m o (f_X11_votes_4 l0 l1 y0 m o) := by
  refine Mh_if_eq (tgt := 19) dX11_votes_4 (by decide) rfl (fun _ => ?_) (fun _ => ?_)
  · refine Mh_iconst (v := (-1)) dX11_votes_19 (by decide) ?_
    refine Mh_sub (lv' := []) [] rfl ?_
    exact t_X11_votes_20 l E c0 s0 _ _ _
  · refine Mh_aload_n 0 rfl dX11_votes_7 ?_
    refine Mh_gR fd_10_0 fl_RX11_10 dX11_votes_8 ?_
    refine Mh_gR fd_5_2 fl_RX11_182 dX11_votes_11 ?_
    refine Mh_iload_n 1 rfl dX11_votes_14 ?_
    refine Mh_ial dX11_votes_15 ?_
    refine Mh_goto (tgt := 20) dX11_votes_16 (by decide) ?_
    refine Mh_sub (lv' := []) [] rfl ?_
    exact t_X11_votes_20 l E c0 s0 _ _ _
def f_X11_votes_0 (l0 : Nat) (l1 : Int32) (m : Mm) (o : Prop) : Int32 × Mm × Prop := bnd (F_X11_isColour l1 m o) (fun v1 m1 o1 => f_X11_votes_4 l0 l1 v1 m1 o1)
set_option maxRecDepth 10000 in
theorem t_X11_votes_0 (l : Launch) (E : En) (c0 s0 : Nat) (l0 : Nat) (l1 : Int32) (m : Mm) (o : Prop) : Mh wI l E mi_X11_votes c0 s0 0 [(0, .ref l0), (1, .int l1)] [] m o (f_X11_votes_0 l0 l1 m o) := by
  refine Mh_iload_n 1 rfl dX11_votes_0 ?_
  refine Mh_csI (N := mi_X11_isColour) (as := [.int l1]) (st := []) cg_yX11_isColour (.inl ml_RX11_86) sv_yX11_isColour pd_yX11_isColour rfl (by decide) (Nat.le_of_ble_eq_true rfl) rfl dX11_votes_1 (T_X11_isColour l E _ _ _) rfl ?_
  exact t_X11_votes_4 l E c0 s0 _ _ _ _ _
def F_X11_votes (a0 : Nat) (a1 : Int32) (m : Mm) (o : Prop) : Int32 × Mm × Prop := f_X11_votes_0 a0 a1 m o
theorem T_X11_votes (l : Launch) (E : En) (a0 : Nat) (a1 : Int32) (m : Mm) (o : Prop) : Mt wI l E yX11_votes mi_X11_votes [.ref a0, .int a1] m o (F_X11_votes a0 a1 m o) :=
  Mt_I (by decide) rfl rfl rfl (Nat.le_of_ble_eq_true rfl) rfl (.inl rfl) (t_X11_votes_0 l E _ _ _ _ _ _)
def f_X11_would_16 (m : Mm) (o : Prop) : Int32 × Mm × Prop := ((-1 : Int32), m, o)
set_option maxRecDepth 10000 in
theorem t_X11_would_16 (l : Launch) (E : En) (c0 s0 : Nat) (m : Mm) (o : Prop) : Mh wI l E mi_X11_would c0 s0 16 [] [] m o (f_X11_would_16  m o) := by
  refine Mh_iconst (v := (-1)) dX11_would_16 (by decide) ?_
  exact Mh_ret dX11_would_17 rfl (fun _ => rfl) rfl
def f_X11_would_31 (y0 : Int32) (m : Mm) (o : Prop) : Int32 × Mm × Prop := (y0, m, o)
set_option maxRecDepth 10000 in
theorem t_X11_would_31 (l : Launch) (E : En) (c0 s0 : Nat) (y0 : Int32) (m : Mm) (o : Prop) : Mh wI l E mi_X11_would c0 s0 31 [] [.int y0] m o (f_X11_would_31 y0 m o) := by
  exact Mh_ret dX11_would_31 rfl (fun _ => rfl) rfl
def f_X11_would_13 (l0 : Nat) (l1 : Int32) (l2 : Int32) (y0 : Int32) (m : Mm) (o : Prop) : Int32 × Mm × Prop := if y0 = 0 then (f_X11_would_16  m o) else (bnd (F_X3_wouldEat (gR m l0 9) (gR m l0 0) l1 l2 m (((o ∧ (gT m l0 = 11 ∧ gR m l0 9 ≠ 0)) ∧ (gT m l0 = 11 ∧ gR m l0 0 ≠ 0)) ∧ gT m (gR m l0 9) = 4)) (fun v1 m1 o1 => f_X11_would_31 v1 m1 o1))
set_option maxRecDepth 10000 in
theorem t_X11_would_13 (l : Launch) (E : En) (c0 s0 : Nat) (l0 : Nat) (l1 : Int32) (l2 : Int32) (y0 : Int32) (m : Mm) (o : Prop) : Mh wI l E mi_X11_would c0 s0 13 [(0, .ref l0), (1, .int l1), (2, .int l2)] [.int y0] m o (f_X11_would_13 l0 l1 l2 y0 m o) := by
  refine Mh_if_ne (tgt := 18) dX11_would_13 (by decide) rfl (fun _ => ?_) (fun _ => ?_)
  · refine Mh_aload_n 0 rfl dX11_would_18 ?_
    refine Mh_gR fd_10_9 fl_RX11_71 dX11_would_19 ?_
    refine Mh_aload_n 0 rfl dX11_would_22 ?_
    refine Mh_gR fd_10_0 fl_RX11_10 dX11_would_23 ?_
    refine Mh_iload_n 1 rfl dX11_would_26 ?_
    refine Mh_iload_n 2 rfl dX11_would_27 ?_
    refine Mh_cvI (N := mi_X3_wouldEat) (q := gR m l0 9) (ci := 3) (as := [.ref (gR m l0 0), .int l1, .int l2]) (st := []) (id) cg_yX3_wouldEat (by decide) rfl rfl ml_RX11_152 iv_yX3_wouldEat pd_yX3_wouldEat rfl (by decide) (Nat.le_of_ble_eq_true rfl) rfl dX11_would_28 (T_X3_wouldEat l E _ _ _ _ _ _) rfl ?_
    refine Mh_sub (lv' := []) [] rfl ?_
    exact t_X11_would_31 l E c0 s0 _ _ _
  · refine Mh_sub (lv' := []) [] rfl ?_
    exact t_X11_would_16 l E c0 s0  _ _
def f_X11_would_5 (l0 : Nat) (l1 : Int32) (l2 : Int32) (y0 : Int32) (m : Mm) (o : Prop) : Int32 × Mm × Prop := if y0 = 0 then (f_X11_would_16  m o) else (bnd (F_X11_isStanding l0 l2 m (o ∧ gT m l0 = 11)) (fun v1 m1 o1 => f_X11_would_13 l0 l1 l2 v1 m1 o1))
set_option maxRecDepth 10000 in
theorem t_X11_would_5 (l : Launch) (E : En) (c0 s0 : Nat) (l0 : Nat) (l1 : Int32) (l2 : Int32) (y0 : Int32) (m : Mm) (o : Prop) : Mh wI l E mi_X11_would c0 s0 5 [(0, .ref l0), (1, .int l1), (2, .int l2)] [.int y0] m o (f_X11_would_5 l0 l1 l2 y0 m o) := by
  refine Mh_if_eq (tgt := 16) dX11_would_5 (by decide) rfl (fun _ => ?_) (fun _ => ?_)
  · refine Mh_sub (lv' := []) [] rfl ?_
    exact t_X11_would_16 l E c0 s0  _ _
  · refine Mh_aload_n 0 rfl dX11_would_8 ?_
    refine Mh_iload_n 2 rfl dX11_would_9 ?_
    refine Mh_cvI (N := mi_X11_isStanding) (q := l0) (ci := 10) (as := [.int l2]) (st := []) (id) cg_yX11_isStanding (by decide) rfl rfl ml_RX11_135 iv_yX11_isStanding pd_yX11_isStanding rfl (by decide) (Nat.le_of_ble_eq_true rfl) rfl dX11_would_10 (T_X11_isStanding l E _ _ _ _) rfl ?_
    exact t_X11_would_13 l E c0 s0 _ _ _ _ _ _
def f_X11_would_0 (l0 : Nat) (l1 : Int32) (l2 : Int32) (m : Mm) (o : Prop) : Int32 × Mm × Prop := bnd (F_X11_hasCow l0 l1 m (o ∧ gT m l0 = 11)) (fun v1 m1 o1 => f_X11_would_5 l0 l1 l2 v1 m1 o1)
set_option maxRecDepth 10000 in
theorem t_X11_would_0 (l : Launch) (E : En) (c0 s0 : Nat) (l0 : Nat) (l1 : Int32) (l2 : Int32) (m : Mm) (o : Prop) : Mh wI l E mi_X11_would c0 s0 0 [(0, .ref l0), (1, .int l1), (2, .int l2)] [] m o (f_X11_would_0 l0 l1 l2 m o) := by
  refine Mh_aload_n 0 rfl dX11_would_0 ?_
  refine Mh_iload_n 1 rfl dX11_would_1 ?_
  refine Mh_cvI (N := mi_X11_hasCow) (q := l0) (ci := 10) (as := [.int l1]) (st := []) (id) cg_yX11_hasCow (by decide) rfl rfl ml_RX11_124 iv_yX11_hasCow pd_yX11_hasCow rfl (by decide) (Nat.le_of_ble_eq_true rfl) rfl dX11_would_2 (T_X11_hasCow l E _ _ _ _) rfl ?_
  exact t_X11_would_5 l E c0 s0 _ _ _ _ _ _
def F_X11_would (a0 : Nat) (a1 : Int32) (a2 : Int32) (m : Mm) (o : Prop) : Int32 × Mm × Prop := f_X11_would_0 a0 a1 a2 m o
theorem T_X11_would (l : Launch) (E : En) (a0 : Nat) (a1 : Int32) (a2 : Int32) (m : Mm) (o : Prop) : Mt wI l E yX11_would mi_X11_would [.ref a0, .int a1, .int a2] m o (F_X11_would a0 a1 a2 m o) :=
  Mt_I (by decide) rfl rfl rfl (Nat.le_of_ble_eq_true rfl) rfl (.inl rfl) (t_X11_would_0 l E _ _ _ _ _ _ _)
