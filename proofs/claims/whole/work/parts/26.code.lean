def f_X5_standingCount_30 (k4 : Nat → Int32 → Int32 → Mm → Prop → Int32 × Mm × Prop) (l0 : Nat) (l2 : Int32) (y1 : Int32) (y0 : Int32) (m : Mm) (o : Prop) : Int32 × Mm × Prop := k4 l0 (y0 + y1) (l2 + 1) m o
set_option maxRecDepth 10000 in
theorem t_X5_standingCount_30 (l : Launch) (E : En) (c0 s0 : Nat) (k4 : Nat → Int32 → Int32 → Mm → Prop → Int32 × Mm × Prop) (hk4 : ∀ (l0 : Nat) (l1 : Int32) (l2 : Int32) (m : Mm) (o : Prop), Mh wI l E mi_X5_standingCount c0 s0 4 [(0, .ref l0), (1, .int l1), (2, .int l2)] [] m o (k4 l0 l1 l2 m o)) (l0 : Nat) (l2 : Int32) (y1 : Int32) (y0 : Int32) (m : Mm) (o : Prop) : Mh wI l E mi_X5_standingCount c0 s0 30 [(0, .ref l0), (2, .int l2)] [.int y1, .int y0] m o (f_X5_standingCount_30 k4 l0 l2 y1 y0 m o) := by
  refine Mh_iadd dX5_standingCount_30 ?_
  refine Mh_istore_n (lv' := [(1, .int (y0 + y1)), (0, .ref l0), (2, .int l2)]) dX5_standingCount_31 (Nat.le_of_ble_eq_true rfl) rfl ?_
  refine Mh_iinc (v := l2 + 1) (lv' := [(2, .int (l2 + 1)), (1, .int (y0 + y1)), (0, .ref l0)]) 2 dX5_standingCount_32 rfl rfl (Nat.le_of_ble_eq_true rfl) rfl ?_
  refine Mh_goto (tgt := 4) dX5_standingCount_35 (by decide) ?_
  refine Mh_sub (lv' := [(0, .ref l0), (1, .int (y0 + y1)), (2, .int (l2 + 1))]) [2, 1, 0] rfl ?_
  exact hk4 _ _ _ _ _
def f_X5_standingCount_4b (k4 : Nat → Int32 → Int32 → Mm → Prop → Int32 × Mm × Prop) (l0 : Nat) (l1 : Int32) (l2 : Int32) (m : Mm) (o : Prop) : Int32 × Mm × Prop := if (gI m l0 6) ≤ l2 then (l1, m, (o ∧ gT m l0 = 6)) else (if (gI m (gR m (gR m l0 0) (ix l2)) 7) = 0 then (f_X5_standingCount_30 k4 l0 l2 (0 : Int32) l1 m ((((o ∧ gT m l0 = 6) ∧ (gT m l0 = 6 ∧ gR m l0 0 ≠ 0)) ∧ (gT m (gR m l0 0) = 24 ∧ vp_in l2 (gN m (gR m l0 0)) ∧ gR m (gR m l0 0) (ix l2) ≠ 0)) ∧ gT m (gR m (gR m l0 0) (ix l2)) = 8)) else (f_X5_standingCount_30 k4 l0 l2 (1 : Int32) l1 m ((((o ∧ gT m l0 = 6) ∧ (gT m l0 = 6 ∧ gR m l0 0 ≠ 0)) ∧ (gT m (gR m l0 0) = 24 ∧ vp_in l2 (gN m (gR m l0 0)) ∧ gR m (gR m l0 0) (ix l2) ≠ 0)) ∧ gT m (gR m (gR m l0 0) (ix l2)) = 8)))
set_option maxRecDepth 10000 in
theorem t_X5_standingCount_4b (l : Launch) (E : En) (c0 s0 : Nat) (k4 : Nat → Int32 → Int32 → Mm → Prop → Int32 × Mm × Prop) (hk4 : ∀ (l0 : Nat) (l1 : Int32) (l2 : Int32) (m : Mm) (o : Prop), Mh wI l E mi_X5_standingCount c0 s0 4 [(0, .ref l0), (1, .int l1), (2, .int l2)] [] m o (k4 l0 l1 l2 m o)) (l0 : Nat) (l1 : Int32) (l2 : Int32) (m : Mm) (o : Prop) : Mh wI l E mi_X5_standingCount c0 s0 4 [(0, .ref l0), (1, .int l1), (2, .int l2)] [] m o (f_X5_standingCount_4b k4 l0 l1 l2 m o) := by
  refine Mh_iload_n 2 rfl dX5_standingCount_4 ?_
  refine Mh_aload_n 0 rfl dX5_standingCount_5 ?_
  refine Mh_gI fd_5_6 fl_RX5_48 dX5_standingCount_6 ?_
  refine Mh_icmp_ge (tgt := 38) dX5_standingCount_9 (by decide) rfl (fun _ => ?_) (fun _ => ?_)
  · refine Mh_iload_n 1 rfl dX5_standingCount_38 ?_
    exact Mh_ret dX5_standingCount_39 rfl (fun _ => rfl) rfl
  · refine Mh_iload_n 1 rfl dX5_standingCount_12 ?_
    refine Mh_aload_n 0 rfl dX5_standingCount_13 ?_
    refine Mh_gR fd_5_0 fl_RX5_11 dX5_standingCount_14 ?_
    refine Mh_iload_n 2 rfl dX5_standingCount_17 ?_
    refine Mh_aal 24 (.inl rfl) dX5_standingCount_18 ?_
    refine Mh_gI fd_7_7 fl_RX5_67 dX5_standingCount_19 ?_
    refine Mh_if_eq (tgt := 29) dX5_standingCount_22 (by decide) rfl (fun _ => ?_) (fun _ => ?_)
    · refine Mh_iconst (v := 0) dX5_standingCount_29 (by decide) ?_
      refine Mh_sub (lv' := [(0, .ref l0), (2, .int l2)]) [0, 2] rfl ?_
      exact t_X5_standingCount_30 l E c0 s0 k4 hk4 _ _ _ _ _ _
    · refine Mh_iconst (v := 1) dX5_standingCount_25 (by decide) ?_
      refine Mh_goto (tgt := 30) dX5_standingCount_26 (by decide) ?_
      refine Mh_sub (lv' := [(0, .ref l0), (2, .int l2)]) [0, 2] rfl ?_
      exact t_X5_standingCount_30 l E c0 s0 k4 hk4 _ _ _ _ _ _
def f_X5_standingCount_4 : Nat → Nat → Int32 → Int32 → Mm → Prop → Int32 × Mm × Prop
  | 0, _, _, _, m, _ => (0, m, False)
  | n + 1, l0, l1, l2, m, o => f_X5_standingCount_4b (f_X5_standingCount_4 n) l0 l1 l2 m o
theorem t_X5_standingCount_4 (l : Launch) (E : En) (c0 s0 : Nat) : ∀ (n : Nat) (l0 : Nat) (l1 : Int32) (l2 : Int32) (m : Mm) (o : Prop), Mh wI l E mi_X5_standingCount c0 s0 4 [(0, .ref l0), (1, .int l1), (2, .int l2)] [] m o (f_X5_standingCount_4 n l0 l1 l2 m o)
  | 0, _, _, _, _, _ => Mh_out rfl
  | n + 1, l0, l1, l2, m, o => t_X5_standingCount_4b l E c0 s0 (f_X5_standingCount_4 n) (t_X5_standingCount_4 l E c0 s0 n) l0 l1 l2 m o
def f_X5_standingCount_0 (l0 : Nat) (m : Mm) (o : Prop) : Int32 × Mm × Prop := f_X5_standingCount_4 1000 l0 (0 : Int32) (0 : Int32) m o
set_option maxRecDepth 10000 in
theorem t_X5_standingCount_0 (l : Launch) (E : En) (c0 s0 : Nat) (l0 : Nat) (m : Mm) (o : Prop) : Mh wI l E mi_X5_standingCount c0 s0 0 [(0, .ref l0)] [] m o (f_X5_standingCount_0 l0 m o) := by
  refine Mh_iconst (v := 0) dX5_standingCount_0 (by decide) ?_
  refine Mh_istore_n (lv' := [(1, .int (0 : Int32)), (0, .ref l0)]) dX5_standingCount_1 (Nat.le_of_ble_eq_true rfl) rfl ?_
  refine Mh_iconst (v := 0) dX5_standingCount_2 (by decide) ?_
  refine Mh_istore_n (lv' := [(2, .int (0 : Int32)), (1, .int (0 : Int32)), (0, .ref l0)]) dX5_standingCount_3 (Nat.le_of_ble_eq_true rfl) rfl ?_
  refine Mh_sub (lv' := [(0, .ref l0), (1, .int (0 : Int32)), (2, .int (0 : Int32))]) [2, 1, 0] rfl ?_
  exact t_X5_standingCount_4 l E c0 s0 _ _ _ _ _ _
def F_X5_standingCount (a0 : Nat) (m : Mm) (o : Prop) : Int32 × Mm × Prop := f_X5_standingCount_0 a0 m o
theorem T_X5_standingCount (l : Launch) (E : En) (a0 : Nat) (m : Mm) (o : Prop) : Mt wI l E yX5_standingCount mi_X5_standingCount [.ref a0] m o (F_X5_standingCount a0 m o) :=
  Mt_I (by decide) rfl rfl rfl (Nat.le_of_ble_eq_true rfl) rfl (.inl rfl) (t_X5_standingCount_0 l E _ _ _ _ _)
def f_X11_count_107 (y0 : Int32) (m : Mm) (o : Prop) : Int32 × Mm × Prop := (y0, m, o)
set_option maxRecDepth 10000 in
theorem t_X11_count_107 (l : Launch) (E : En) (c0 s0 : Nat) (y0 : Int32) (m : Mm) (o : Prop) : Mh wI l E mi_X11_count c0 s0 107 [] [.int y0] m o (f_X11_count_107 y0 m o) := by
  exact Mh_ret dX11_count_107 rfl (fun _ => rfl) rfl
def f_X11_count_0 (l0 : Nat) (l1 : Int32) (m : Mm) (o : Prop) : Int32 × Mm × Prop := if l1 = 0 then (gI m (gR m l0 0) 10, m, ((o ∧ (gT m l0 = 11 ∧ gR m l0 0 ≠ 0)) ∧ gT m (gR m l0 0) = 6)) else if l1 = 1 then (gI m (gR m l0 0) 6, m, ((o ∧ (gT m l0 = 11 ∧ gR m l0 0 ≠ 0)) ∧ gT m (gR m l0 0) = 6)) else if l1 = 2 then (gI m (gR m l0 0) 7, m, ((o ∧ (gT m l0 = 11 ∧ gR m l0 0 ≠ 0)) ∧ gT m (gR m l0 0) = 6)) else if l1 = 3 then (gI m (gR m l0 9) 10, m, ((o ∧ (gT m l0 = 11 ∧ gR m l0 9 ≠ 0)) ∧ gT m (gR m l0 9) = 4)) else if l1 = 4 then (gI m (gR m l0 3) 1, m, ((o ∧ (gT m l0 = 11 ∧ gR m l0 3 ≠ 0)) ∧ gT m (gR m l0 3) = 9)) else if l1 = 5 then (gI m (gR m l0 0) 11, m, ((o ∧ (gT m l0 = 11 ∧ gR m l0 0 ≠ 0)) ∧ gT m (gR m l0 0) = 6)) else if l1 = 6 then (bnd (F_X5_standingCount (gR m l0 0) m ((o ∧ (gT m l0 = 11 ∧ gR m l0 0 ≠ 0)) ∧ gT m (gR m l0 0) = 6)) (fun v1 m1 o1 => f_X11_count_107 v1 m1 o1)) else if l1 = 7 then (gI m (gR m l0 0) 8, m, ((o ∧ (gT m l0 = 11 ∧ gR m l0 0 ≠ 0)) ∧ gT m (gR m l0 0) = 6)) else if l1 = 8 then (gI m (gR m l0 0) 9, m, ((o ∧ (gT m l0 = 11 ∧ gR m l0 0 ≠ 0)) ∧ gT m (gR m l0 0) = 6)) else ((-1 : Int32), m, o)
set_option maxRecDepth 10000 in
theorem t_X11_count_0 (l : Launch) (E : En) (c0 s0 : Nat) (l0 : Nat) (l1 : Int32) (m : Mm) (o : Prop) : Mh wI l E mi_X11_count c0 s0 0 [(0, .ref l0), (1, .int l1)] [] m o (f_X11_count_0 l0 l1 m o) := by
  refine Mh_iload_n 1 rfl dX11_count_0 ?_
  refine Mh_ite (C := l1 = 0) rfl (fun hs0 => ?_) (fun hs0 => ?_)
  · refine Mh_tsi (off := 51) (tgt := 52) dX11_count_1 (by rw [hs0]; decide) (by rw [hs0]; decide) (by rw [hs0]; decide) (by decide) ?_
    refine Mh_aload_n 0 rfl dX11_count_52 ?_
    refine Mh_gR fd_10_0 fl_RX11_10 dX11_count_53 ?_
    refine Mh_gI fd_5_10 fl_RX11_311 dX11_count_56 ?_
    exact Mh_ret dX11_count_59 rfl (fun _ => rfl) rfl
  refine Mh_ite (C := l1 = 1) rfl (fun hs1 => ?_) (fun hs1 => ?_)
  · refine Mh_tsi (off := 59) (tgt := 60) dX11_count_1 (by rw [hs1]; decide) (by rw [hs1]; decide) (by rw [hs1]; decide) (by decide) ?_
    refine Mh_aload_n 0 rfl dX11_count_60 ?_
    refine Mh_gR fd_10_0 fl_RX11_10 dX11_count_61 ?_
    refine Mh_gI fd_5_6 fl_RX11_94 dX11_count_64 ?_
    exact Mh_ret dX11_count_67 rfl (fun _ => rfl) rfl
  refine Mh_ite (C := l1 = 2) rfl (fun hs2 => ?_) (fun hs2 => ?_)
  · refine Mh_tsi (off := 67) (tgt := 68) dX11_count_1 (by rw [hs2]; decide) (by rw [hs2]; decide) (by rw [hs2]; decide) (by decide) ?_
    refine Mh_aload_n 0 rfl dX11_count_68 ?_
    refine Mh_gR fd_10_0 fl_RX11_10 dX11_count_69 ?_
    refine Mh_gI fd_5_7 fl_RX11_111 dX11_count_72 ?_
    exact Mh_ret dX11_count_75 rfl (fun _ => rfl) rfl
  refine Mh_ite (C := l1 = 3) rfl (fun hs3 => ?_) (fun hs3 => ?_)
  · refine Mh_tsi (off := 75) (tgt := 76) dX11_count_1 (by rw [hs3]; decide) (by rw [hs3]; decide) (by rw [hs3]; decide) (by decide) ?_
    refine Mh_aload_n 0 rfl dX11_count_76 ?_
    refine Mh_gR fd_10_9 fl_RX11_71 dX11_count_77 ?_
    refine Mh_gI fd_3_10 fl_RX11_314 dX11_count_80 ?_
    exact Mh_ret dX11_count_83 rfl (fun _ => rfl) rfl
  refine Mh_ite (C := l1 = 4) rfl (fun hs4 => ?_) (fun hs4 => ?_)
  · refine Mh_tsi (off := 83) (tgt := 84) dX11_count_1 (by rw [hs4]; decide) (by rw [hs4]; decide) (by rw [hs4]; decide) (by decide) ?_
    refine Mh_aload_n 0 rfl dX11_count_84 ?_
    refine Mh_gR fd_10_3 fl_RX11_25 dX11_count_85 ?_
    refine Mh_gI fd_8_1 fl_RX11_138 dX11_count_88 ?_
    exact Mh_ret dX11_count_91 rfl (fun _ => rfl) rfl
  refine Mh_ite (C := l1 = 5) rfl (fun hs5 => ?_) (fun hs5 => ?_)
  · refine Mh_tsi (off := 91) (tgt := 92) dX11_count_1 (by rw [hs5]; decide) (by rw [hs5]; decide) (by rw [hs5]; decide) (by decide) ?_
    refine Mh_aload_n 0 rfl dX11_count_92 ?_
    refine Mh_gR fd_10_0 fl_RX11_10 dX11_count_93 ?_
    refine Mh_gI fd_5_11 fl_RX11_299 dX11_count_96 ?_
    exact Mh_ret dX11_count_99 rfl (fun _ => rfl) rfl
  refine Mh_ite (C := l1 = 6) rfl (fun hs6 => ?_) (fun hs6 => ?_)
  · refine Mh_tsi (off := 99) (tgt := 100) dX11_count_1 (by rw [hs6]; decide) (by rw [hs6]; decide) (by rw [hs6]; decide) (by decide) ?_
    refine Mh_aload_n 0 rfl dX11_count_100 ?_
    refine Mh_gR fd_10_0 fl_RX11_10 dX11_count_101 ?_
    refine Mh_cvI (N := mi_X5_standingCount) (q := gR m l0 0) (ci := 5) (as := []) (st := []) (id) cg_yX5_standingCount (by decide) rfl rfl ml_RX11_175 iv_yX5_standingCount pd_yX5_standingCount rfl (by decide) (Nat.le_of_ble_eq_true rfl) rfl dX11_count_104 (T_X5_standingCount l E _ _ _) rfl ?_
    refine Mh_sub (lv' := []) [] rfl ?_
    exact t_X11_count_107 l E c0 s0 _ _ _
  refine Mh_ite (C := l1 = 7) rfl (fun hs7 => ?_) (fun hs7 => ?_)
  · refine Mh_tsi (off := 107) (tgt := 108) dX11_count_1 (by rw [hs7]; decide) (by rw [hs7]; decide) (by rw [hs7]; decide) (by decide) ?_
    refine Mh_aload_n 0 rfl dX11_count_108 ?_
    refine Mh_gR fd_10_0 fl_RX11_10 dX11_count_109 ?_
    refine Mh_gI fd_5_8 fl_RX11_317 dX11_count_112 ?_
    exact Mh_ret dX11_count_115 rfl (fun _ => rfl) rfl
  refine Mh_ite (C := l1 = 8) rfl (fun hs8 => ?_) (fun hs8 => ?_)
  · refine Mh_tsi (off := 115) (tgt := 116) dX11_count_1 (by rw [hs8]; decide) (by rw [hs8]; decide) (by rw [hs8]; decide) (by decide) ?_
    refine Mh_aload_n 0 rfl dX11_count_116 ?_
    refine Mh_gR fd_10_0 fl_RX11_10 dX11_count_117 ?_
    refine Mh_gI fd_5_9 fl_RX11_320 dX11_count_120 ?_
    exact Mh_ret dX11_count_123 rfl (fun _ => rfl) rfl
  refine Mh_tsd (tgt := 124) [0, 1, 2, 3, 4, 5, 6, 7, 8] dX11_count_1 (by decide) (by decide) (List.forall_mem_cons.mpr ⟨lv_neT hs0 (by decide), List.forall_mem_cons.mpr ⟨lv_neT hs1 (by decide), List.forall_mem_cons.mpr ⟨lv_neT hs2 (by decide), List.forall_mem_cons.mpr ⟨lv_neT hs3 (by decide), List.forall_mem_cons.mpr ⟨lv_neT hs4 (by decide), List.forall_mem_cons.mpr ⟨lv_neT hs5 (by decide), List.forall_mem_cons.mpr ⟨lv_neT hs6 (by decide), List.forall_mem_cons.mpr ⟨lv_neT hs7 (by decide), List.forall_mem_cons.mpr ⟨lv_neT hs8 (by decide), fun _ h => absurd h List.not_mem_nil⟩⟩⟩⟩⟩⟩⟩⟩⟩) (by decide) ?_
  refine Mh_iconst (v := (-1)) dX11_count_124 (by decide) ?_
  exact Mh_ret dX11_count_125 rfl (fun _ => rfl) rfl
def F_X11_count (a0 : Nat) (a1 : Int32) (m : Mm) (o : Prop) : Int32 × Mm × Prop := f_X11_count_0 a0 a1 m o
theorem T_X11_count (l : Launch) (E : En) (a0 : Nat) (a1 : Int32) (m : Mm) (o : Prop) : Mt wI l E yX11_count mi_X11_count [.ref a0, .int a1] m o (F_X11_count a0 a1 m o) :=
  Mt_I (by decide) rfl rfl rfl (Nat.le_of_ble_eq_true rfl) rfl (.inl rfl) (t_X11_count_0 l E _ _ _ _ _ _)
def f_X11_isSquare_25 (y0 : Int32) (m : Mm) (o : Prop) : Int32 × Mm × Prop := (y0, m, o ∧ (y0 = 0 ∨ y0 = 1))
set_option maxRecDepth 10000 in
theorem t_X11_isSquare_25 (l : Launch) (E : En) (c0 s0 : Nat) (y0 : Int32) (m : Mm) (o : Prop) : Mh wI l E mi_X11_isSquare c0 s0 25 [] [.int y0] m o (f_X11_isSquare_25 y0 m o) := by
  exact Mh_retZ dX11_isSquare_25 (.inl rfl) rfl
def f_X11_isSquare_24 (m : Mm) (o : Prop) : Int32 × Mm × Prop := f_X11_isSquare_25 (0 : Int32) m o
set_option maxRecDepth 10000 in
theorem t_X11_isSquare_24 (l : Launch) (E : En) (c0 s0 : Nat) (m : Mm) (o : Prop) : Mh wI l E mi_X11_isSquare c0 s0 24 [] [] m o (f_X11_isSquare_24  m o) := by
  refine Mh_iconst (v := 0) dX11_isSquare_24 (by decide) ?_
  exact t_X11_isSquare_25 l E c0 s0 _ _ _
def f_X11_isSquare_17 (y0 : Int32) (m : Mm) (o : Prop) : Int32 × Mm × Prop := if y0 = 0 then (f_X11_isSquare_24  m o) else (f_X11_isSquare_25 (1 : Int32) m o)
set_option maxRecDepth 10000 in
theorem t_X11_isSquare_17 (l : Launch) (E : En) (c0 s0 : Nat) (y0 : Int32) (m : Mm) (o : Prop) : Mh wI l E mi_X11_isSquare c0 s0 17 [] [.int y0] m o (f_X11_isSquare_17 y0 m o) := by
  refine Mh_if_eq (tgt := 24) dX11_isSquare_17 (by decide) rfl (fun _ => ?_) (fun _ => ?_)
  · exact t_X11_isSquare_24 l E c0 s0  _ _
  · refine Mh_iconst (v := 1) dX11_isSquare_20 (by decide) ?_
    refine Mh_goto (tgt := 25) dX11_isSquare_21 (by decide) ?_
    exact t_X11_isSquare_25 l E c0 s0 _ _ _
def f_X11_isSquare_7 (l1 : Int32) (y0 : Int32) (m : Mm) (o : Prop) : Int32 × Mm × Prop := if y0 = 0 then (f_X11_isSquare_24  m o) else (bnd (F_X11_isWithin l1 (0 : Int32) (9 : Int32) m o) (fun v1 m1 o1 => f_X11_isSquare_17 v1 m1 o1))
set_option maxRecDepth 10000 in
theorem t_X11_isSquare_7 (l : Launch) (E : En) (c0 s0 : Nat) (l1 : Int32) (y0 : Int32) (m : Mm) (o : Prop) : Mh wI l E mi_X11_isSquare c0 s0 7 [(1, .int l1)] [.int y0] m o (f_X11_isSquare_7 l1 y0 m o) := by
  refine Mh_if_eq (tgt := 24) dX11_isSquare_7 (by decide) rfl (fun _ => ?_) (fun _ => ?_)
  · refine Mh_sub (lv' := []) [] rfl ?_
    exact t_X11_isSquare_24 l E c0 s0  _ _
  · refine Mh_iload_n 0 rfl dX11_isSquare_10 ?_
    refine Mh_iconst (v := 0) dX11_isSquare_11 (by decide) ?_
    refine Mh_bipush (v := 9) dX11_isSquare_12 (by decide) ?_
    refine Mh_csI (N := mi_X11_isWithin) (as := [.int l1, .int (0 : Int32), .int (9 : Int32)]) (st := []) cg_yX11_isWithin (.inl ml_RX11_90) sv_yX11_isWithin pd_yX11_isWithin rfl (by decide) (Nat.le_of_ble_eq_true rfl) rfl dX11_isSquare_14 (T_X11_isWithin l E _ _ _ _ _) rfl ?_
    refine Mh_sub (lv' := []) [] rfl ?_
    exact t_X11_isSquare_17 l E c0 s0 _ _ _
def f_X11_isSquare_0 (l0 : Int32) (l1 : Int32) (m : Mm) (o : Prop) : Int32 × Mm × Prop := bnd (F_X11_isWithin l0 (0 : Int32) (9 : Int32) m o) (fun v1 m1 o1 => f_X11_isSquare_7 l1 v1 m1 o1)
set_option maxRecDepth 10000 in
theorem t_X11_isSquare_0 (l : Launch) (E : En) (c0 s0 : Nat) (l0 : Int32) (l1 : Int32) (m : Mm) (o : Prop) : Mh wI l E mi_X11_isSquare c0 s0 0 [(0, .int l0), (1, .int l1)] [] m o (f_X11_isSquare_0 l0 l1 m o) := by
  refine Mh_iload_n 0 rfl dX11_isSquare_0 ?_
  refine Mh_iconst (v := 0) dX11_isSquare_1 (by decide) ?_
  refine Mh_bipush (v := 9) dX11_isSquare_2 (by decide) ?_
  refine Mh_csI (N := mi_X11_isWithin) (as := [.int l0, .int (0 : Int32), .int (9 : Int32)]) (st := []) cg_yX11_isWithin (.inl ml_RX11_90) sv_yX11_isWithin pd_yX11_isWithin rfl (by decide) (Nat.le_of_ble_eq_true rfl) rfl dX11_isSquare_4 (T_X11_isWithin l E _ _ _ _ _) rfl ?_
  refine Mh_sub (lv' := [(1, .int l1)]) [1] rfl ?_
  exact t_X11_isSquare_7 l E c0 s0 _ _ _ _
def F_X11_isSquare (a0 : Int32) (a1 : Int32) (m : Mm) (o : Prop) : Int32 × Mm × Prop := f_X11_isSquare_0 a0 a1 m o
theorem T_X11_isSquare (l : Launch) (E : En) (a0 : Int32) (a1 : Int32) (m : Mm) (o : Prop) : Mt wI l E yX11_isSquare mi_X11_isSquare [.int a0, .int a1] m o (F_X11_isSquare a0 a1 m o) :=
  Mt_I (by decide) rfl rfl rfl (Nat.le_of_ble_eq_true rfl) rfl (.inr (.inl rfl)) (t_X11_isSquare_0 l E _ _ _ _ _ _)
def f_X1_enter_44 (k30 : Nat → Int32 → Mm → Prop → Unit × Mm × Prop) (l0 : Nat) (l5 : Int32) (m : Mm) (o : Prop) : Unit × Mm × Prop := k30 l0 (l5 + 1) m o
set_option maxRecDepth 10000 in
theorem t_X1_enter_44 (l : Launch) (E : En) (c0 s0 : Nat) (k30 : Nat → Int32 → Mm → Prop → Unit × Mm × Prop) (hk30 : ∀ (l0 : Nat) (l5 : Int32) (m : Mm) (o : Prop), Mh wU l E mi_X1_enter c0 s0 30 [(0, .ref l0), (5, .int l5)] [] m o (k30 l0 l5 m o)) (l0 : Nat) (l5 : Int32) (m : Mm) (o : Prop) : Mh wU l E mi_X1_enter c0 s0 44 [(0, .ref l0), (5, .int l5)] [] m o (f_X1_enter_44 k30 l0 l5 m o) := by
  refine Mh_iinc (v := l5 + 1) (lv' := [(5, .int (l5 + 1)), (0, .ref l0)]) 1 dX1_enter_44 rfl rfl (Nat.le_of_ble_eq_true rfl) rfl ?_
  refine Mh_goto (tgt := 30) dX1_enter_47 (by decide) ?_
  refine Mh_sub (lv' := [(0, .ref l0), (5, .int (l5 + 1))]) [1, 0] rfl ?_
  exact hk30 _ _ _ _
def f_X1_enter_30b (k30 : Nat → Int32 → Mm → Prop → Unit × Mm × Prop) (l0 : Nat) (l5 : Int32) (m : Mm) (o : Prop) : Unit × Mm × Prop := if (5 : Int32) ≤ l5 then ((), m, o) else (f_X1_enter_44 k30 l0 l5 (sI m (gR m l0 5) (ix l5) (0 : Int32)) ((o ∧ (gT m l0 = 2 ∧ gR m l0 5 ≠ 0)) ∧ (gT m (gR m l0 5) = 20 ∧ vp_in l5 (gN m (gR m l0 5)))))
set_option maxRecDepth 10000 in
theorem t_X1_enter_30b (l : Launch) (E : En) (c0 s0 : Nat) (k30 : Nat → Int32 → Mm → Prop → Unit × Mm × Prop) (hk30 : ∀ (l0 : Nat) (l5 : Int32) (m : Mm) (o : Prop), Mh wU l E mi_X1_enter c0 s0 30 [(0, .ref l0), (5, .int l5)] [] m o (k30 l0 l5 m o)) (l0 : Nat) (l5 : Int32) (m : Mm) (o : Prop) : Mh wU l E mi_X1_enter c0 s0 30 [(0, .ref l0), (5, .int l5)] [] m o (f_X1_enter_30b k30 l0 l5 m o) := by
  refine Mh_iload 1 rfl dX1_enter_30 ?_
  refine Mh_iconst (v := 5) dX1_enter_32 (by decide) ?_
  refine Mh_icmp_ge (tgt := 50) dX1_enter_33 (by decide) rfl (fun _ => ?_) (fun _ => ?_)
  · exact Mh_ret dX1_enter_50 rfl (fun _ => trivial) rfl
  · refine Mh_aload_n 0 rfl dX1_enter_36 ?_
    refine Mh_gR fd_1_5 fl_RX1_9 dX1_enter_37 ?_
    refine Mh_iload 1 rfl dX1_enter_40 ?_
    refine Mh_iconst (v := 0) dX1_enter_42 (by decide) ?_
    refine Mh_ias dX1_enter_43 ?_
    exact t_X1_enter_44 l E c0 s0 k30 hk30 _ _ _ _
def f_X1_enter_30 : Nat → Nat → Int32 → Mm → Prop → Unit × Mm × Prop
  | 0, _, _, m, _ => ((), m, False)
  | n + 1, l0, l5, m, o => f_X1_enter_30b (f_X1_enter_30 n) l0 l5 m o
theorem t_X1_enter_30 (l : Launch) (E : En) (c0 s0 : Nat) : ∀ (n : Nat) (l0 : Nat) (l5 : Int32) (m : Mm) (o : Prop), Mh wU l E mi_X1_enter c0 s0 30 [(0, .ref l0), (5, .int l5)] [] m o (f_X1_enter_30 n l0 l5 m o)
  | 0, _, _, _, _ => Mh_out rfl
  | n + 1, l0, l5, m, o => t_X1_enter_30b l E c0 s0 (f_X1_enter_30 n) (t_X1_enter_30 l E c0 s0 n) l0 l5 m o
def f_X1_enter_27 (l0 : Nat) (m : Mm) (o : Prop) : Unit × Mm × Prop := f_X1_enter_30 1000 l0 (0 : Int32) m o
set_option maxRecDepth 10000 in
theorem t_X1_enter_27 (l : Launch) (E : En) (c0 s0 : Nat) (l0 : Nat) (m : Mm) (o : Prop) : Mh wU l E mi_X1_enter c0 s0 27 [(0, .ref l0)] [] m o (f_X1_enter_27 l0 m o) := by
  refine Mh_iconst (v := 0) dX1_enter_27 (by decide) ?_
  refine Mh_istore (lv' := [(5, .int (0 : Int32)), (0, .ref l0)]) dX1_enter_28 (Nat.le_of_ble_eq_true rfl) rfl ?_
  refine Mh_sub (lv' := [(0, .ref l0), (5, .int (0 : Int32))]) [1, 0] rfl ?_
  exact t_X1_enter_30 l E c0 s0 _ _ _ _ _
def f_X1_enter_21 (l0 : Nat) (m : Mm) (o : Prop) : Unit × Mm × Prop := f_X1_enter_27 l0 (sI m l0 4 (-2 : Int32)) (o ∧ gT m l0 = 2)
set_option maxRecDepth 10000 in
theorem t_X1_enter_21 (l : Launch) (E : En) (c0 s0 : Nat) (l0 : Nat) (m : Mm) (o : Prop) : Mh wU l E mi_X1_enter c0 s0 21 [(0, .ref l0)] [] m o (f_X1_enter_21 l0 m o) := by
  refine Mh_aload_n 0 rfl dX1_enter_21 ?_
  refine Mh_bipush (v := (-2)) dX1_enter_22 (by decide) ?_
  refine Mh_pI fd_1_4 ft_1 rfl fl_RX1_28 rfl dX1_enter_24 ?_
  exact t_X1_enter_27 l E c0 s0 _ _ _
def f_X1_enter_15 (l0 : Nat) (l4 : Int32) (m : Mm) (o : Prop) : Unit × Mm × Prop := f_X1_enter_21 l0 (sI m l0 3 l4) (o ∧ gT m l0 = 2)
set_option maxRecDepth 10000 in
theorem t_X1_enter_15 (l : Launch) (E : En) (c0 s0 : Nat) (l0 : Nat) (l4 : Int32) (m : Mm) (o : Prop) : Mh wU l E mi_X1_enter c0 s0 15 [(0, .ref l0), (4, .int l4)] [] m o (f_X1_enter_15 l0 l4 m o) := by
  refine Mh_aload_n 0 rfl dX1_enter_15 ?_
  refine Mh_iload 1 rfl dX1_enter_16 ?_
  refine Mh_pI fd_1_3 ft_1 rfl fl_RX1_25 rfl dX1_enter_18 ?_
  refine Mh_sub (lv' := [(0, .ref l0)]) [0] rfl ?_
  exact t_X1_enter_21 l E c0 s0 _ _ _
def f_X1_enter_10 (l0 : Nat) (l3 : Int32) (l4 : Int32) (m : Mm) (o : Prop) : Unit × Mm × Prop := f_X1_enter_15 l0 l4 (sI m l0 2 l3) (o ∧ gT m l0 = 2)
set_option maxRecDepth 10000 in
theorem t_X1_enter_10 (l : Launch) (E : En) (c0 s0 : Nat) (l0 : Nat) (l3 : Int32) (l4 : Int32) (m : Mm) (o : Prop) : Mh wU l E mi_X1_enter c0 s0 10 [(0, .ref l0), (3, .int l3), (4, .int l4)] [] m o (f_X1_enter_10 l0 l3 l4 m o) := by
  refine Mh_aload_n 0 rfl dX1_enter_10 ?_
  refine Mh_iload_n 1 rfl dX1_enter_11 ?_
  refine Mh_pI fd_1_2 ft_1 rfl fl_RX1_22 rfl dX1_enter_12 ?_
  refine Mh_sub (lv' := [(0, .ref l0), (4, .int l4)]) [0, 2] rfl ?_
  exact t_X1_enter_15 l E c0 s0 _ _ _ _
def f_X1_enter_5 (l0 : Nat) (l2 : Int32) (l3 : Int32) (l4 : Int32) (m : Mm) (o : Prop) : Unit × Mm × Prop := f_X1_enter_10 l0 l3 l4 (sI m l0 1 l2) (o ∧ gT m l0 = 2)
set_option maxRecDepth 10000 in
theorem t_X1_enter_5 (l : Launch) (E : En) (c0 s0 : Nat) (l0 : Nat) (l2 : Int32) (l3 : Int32) (l4 : Int32) (m : Mm) (o : Prop) : Mh wU l E mi_X1_enter c0 s0 5 [(0, .ref l0), (2, .int l2), (3, .int l3), (4, .int l4)] [] m o (f_X1_enter_5 l0 l2 l3 l4 m o) := by
  refine Mh_aload_n 0 rfl dX1_enter_5 ?_
  refine Mh_iload_n 1 rfl dX1_enter_6 ?_
  refine Mh_pI fd_1_1 ft_1 rfl fl_RX1_19 rfl dX1_enter_7 ?_
  refine Mh_sub (lv' := [(0, .ref l0), (3, .int l3), (4, .int l4)]) [0, 2, 3] rfl ?_
  exact t_X1_enter_10 l E c0 s0 _ _ _ _ _
def f_X1_enter_0 (l0 : Nat) (l1 : Int32) (l2 : Int32) (l3 : Int32) (l4 : Int32) (m : Mm) (o : Prop) : Unit × Mm × Prop := f_X1_enter_5 l0 l2 l3 l4 (sI m l0 0 l1) (o ∧ gT m l0 = 2)
set_option maxRecDepth 10000 in
theorem t_X1_enter_0 (l : Launch) (E : En) (c0 s0 : Nat) (l0 : Nat) (l1 : Int32) (l2 : Int32) (l3 : Int32) (l4 : Int32) (m : Mm) (o : Prop) : Mh wU l E mi_X1_enter c0 s0 0 [(0, .ref l0), (1, .int l1), (2, .int l2), (3, .int l3), (4, .int l4)] [] m o (f_X1_enter_0 l0 l1 l2 l3 l4 m o) := by
  refine Mh_aload_n 0 rfl dX1_enter_0 ?_
  refine Mh_iload_n 1 rfl dX1_enter_1 ?_
  refine Mh_pI fd_1_0 ft_1 rfl fl_RX1_15 rfl dX1_enter_2 ?_
  refine Mh_sub (lv' := [(0, .ref l0), (2, .int l2), (3, .int l3), (4, .int l4)]) [0, 2, 3, 4] rfl ?_
  exact t_X1_enter_5 l E c0 s0 _ _ _ _ _ _
def F_X1_enter (a0 : Nat) (a1 : Int32) (a2 : Int32) (a3 : Int32) (a4 : Int32) (m : Mm) (o : Prop) : Unit × Mm × Prop := f_X1_enter_0 a0 a1 a2 a3 a4 m o
theorem T_X1_enter (l : Launch) (E : En) (a0 : Nat) (a1 : Int32) (a2 : Int32) (a3 : Int32) (a4 : Int32) (m : Mm) (o : Prop) : Mt wU l E yX1_enter mi_X1_enter [.ref a0, .int a1, .int a2, .int a3, .int a4] m o (F_X1_enter a0 a1 a2 a3 a4 m o) :=
  Mt_U (by decide) rfl (fun h => by cases h) rfl (Nat.le_of_ble_eq_true rfl) rfl (t_X1_enter_0 l E _ _ _ _ _ _ _ _ _)
def f_X11_cow_31 (m : Mm) (o : Prop) : Int32 × Mm × Prop := ((-1 : Int32), m, o)
set_option maxRecDepth 10000 in
theorem t_X11_cow_31 (l : Launch) (E : En) (c0 s0 : Nat) (m : Mm) (o : Prop) : Mh wI l E mi_X11_cow c0 s0 31 [] [] m o (f_X11_cow_31  m o) := by
  refine Mh_iconst (v := (-1)) dX11_cow_31 (by decide) ?_
  exact Mh_ret dX11_cow_32 rfl (fun _ => rfl) rfl
def f_X11_cow_82 (l5 : Int32) (m : Mm) (o : Prop) : Int32 × Mm × Prop := (l5, m, o)
set_option maxRecDepth 10000 in
theorem t_X11_cow_82 (l : Launch) (E : En) (c0 s0 : Nat) (l5 : Int32) (m : Mm) (o : Prop) : Mh wI l E mi_X11_cow c0 s0 82 [(5, .int l5)] [] m o (f_X11_cow_82 l5 m o) := by
  refine Mh_iload 0 rfl dX11_cow_82 ?_
  exact Mh_ret dX11_cow_84 rfl (fun _ => rfl) rfl
def f_X11_cow_69 (l0 : Nat) (l5 : Int32) (m : Mm) (o : Prop) : Int32 × Mm × Prop := f_X11_cow_82 l5 (sI m (gR m l0 0) 7 ((gI m (gR m l0 0) 7) + (1 : Int32))) ((o ∧ (gT m l0 = 11 ∧ gR m l0 0 ≠ 0)) ∧ gT m (gR m l0 0) = 6)
set_option maxRecDepth 10000 in
theorem t_X11_cow_69 (l : Launch) (E : En) (c0 s0 : Nat) (l0 : Nat) (l5 : Int32) (m : Mm) (o : Prop) : Mh wI l E mi_X11_cow c0 s0 69 [(0, .ref l0), (5, .int l5)] [] m o (f_X11_cow_69 l0 l5 m o) := by
  refine Mh_aload_n 0 rfl dX11_cow_69 ?_
  refine Mh_gR fd_10_0 fl_RX11_10 dX11_cow_70 ?_
  refine Mh_dup dX11_cow_73 rfl ?_
  refine Mh_gI fd_5_7 fl_RX11_111 dX11_cow_74 ?_
  refine Mh_iconst (v := 1) dX11_cow_77 (by decide) ?_
  refine Mh_iadd dX11_cow_78 ?_
  refine Mh_pI fd_5_7 ft_5 rfl fl_RX11_111 rfl dX11_cow_79 ?_
  refine Mh_ok (fun h => h.2) ?_
  refine Mh_sub (lv' := [(5, .int l5)]) [1] rfl ?_
  exact t_X11_cow_82 l E c0 s0 _ _ _
def f_X11_cow_64 (l0 : Nat) (l4 : Int32) (l5 : Int32) (y3 : Int32) (y2 : Int32) (y1 : Int32) (y0 : Nat) (m : Mm) (o : Prop) : Int32 × Mm × Prop := bnd (F_X1_enter y0 y1 y2 y3 l4 m (o ∧ gT m y0 = 2)) (fun _ m1 o1 => f_X11_cow_69 l0 l5 m1 o1)
set_option maxRecDepth 10000 in
theorem t_X11_cow_64 (l : Launch) (E : En) (c0 s0 : Nat) (l0 : Nat) (l4 : Int32) (l5 : Int32) (y3 : Int32) (y2 : Int32) (y1 : Int32) (y0 : Nat) (m : Mm) (o : Prop) : Mh wI l E mi_X11_cow c0 s0 64 [(0, .ref l0), (4, .int l4), (5, .int l5)] [.int y3, .int y2, .int y1, .ref y0] m o (f_X11_cow_64 l0 l4 l5 y3 y2 y1 y0 m o) := by
  refine Mh_iload 1 rfl dX11_cow_64 ?_
  refine Mh_cvU (N := mi_X1_enter) (q := y0) (ci := 1) (as := [.int y1, .int y2, .int y3, .int l4]) (st := []) (id) cg_yX1_enter (by decide) rfl rfl ml_RX11_118 iv_yX1_enter pd_yX1_enter rfl (by decide) (Nat.le_of_ble_eq_true rfl) rfl dX11_cow_66 (T_X1_enter l E _ _ _ _ _ _ _) rfl ?_
  refine Mh_sub (lv' := [(0, .ref l0), (5, .int l5)]) [0, 2] rfl ?_
  exact t_X11_cow_69 l E c0 s0 _ _ _ _
def f_X11_cow_16 (l0 : Nat) (l1 : Int32) (l2 : Int32) (l3 : Int32) (l4 : Int32) (y0 : Int32) (m : Mm) (o : Prop) : Int32 × Mm × Prop := if y0 = 0 then (f_X11_cow_31  m o) else (if (gI m (gR m l0 0) 7) < (16 : Int32) then (if l3 = 0 then (f_X11_cow_64 l0 l4 (gI m (gR m l0 0) 7) (1 : Int32) l2 l1 (gR m (gR m (gR m l0 0) 1) (ix (gI m (gR m l0 0) 7))) m ((((o ∧ (gT m l0 = 11 ∧ gR m l0 0 ≠ 0)) ∧ gT m (gR m l0 0) = 6) ∧ (gT m (gR m l0 0) = 6 ∧ gR m (gR m l0 0) 1 ≠ 0)) ∧ (gT m (gR m (gR m l0 0) 1) = 25 ∧ vp_in (gI m (gR m l0 0) 7) (gN m (gR m (gR m l0 0) 1)) ∧ gR m (gR m (gR m l0 0) 1) (ix (gI m (gR m l0 0) 7)) ≠ 0))) else (f_X11_cow_64 l0 l4 (gI m (gR m l0 0) 7) (9 : Int32) l2 l1 (gR m (gR m (gR m l0 0) 1) (ix (gI m (gR m l0 0) 7))) m ((((o ∧ (gT m l0 = 11 ∧ gR m l0 0 ≠ 0)) ∧ gT m (gR m l0 0) = 6) ∧ (gT m (gR m l0 0) = 6 ∧ gR m (gR m l0 0) 1 ≠ 0)) ∧ (gT m (gR m (gR m l0 0) 1) = 25 ∧ vp_in (gI m (gR m l0 0) 7) (gN m (gR m (gR m l0 0) 1)) ∧ gR m (gR m (gR m l0 0) 1) (ix (gI m (gR m l0 0) 7)) ≠ 0)))) else (f_X11_cow_31  m ((o ∧ (gT m l0 = 11 ∧ gR m l0 0 ≠ 0)) ∧ gT m (gR m l0 0) = 6)))
set_option maxRecDepth 10000 in
theorem t_X11_cow_16 (l : Launch) (E : En) (c0 s0 : Nat) (l0 : Nat) (l1 : Int32) (l2 : Int32) (l3 : Int32) (l4 : Int32) (y0 : Int32) (m : Mm) (o : Prop) : Mh wI l E mi_X11_cow c0 s0 16 [(0, .ref l0), (1, .int l1), (2, .int l2), (3, .int l3), (4, .int l4)] [.int y0] m o (f_X11_cow_16 l0 l1 l2 l3 l4 y0 m o) := by
  refine Mh_if_eq (tgt := 31) dX11_cow_16 (by decide) rfl (fun _ => ?_) (fun _ => ?_)
  · refine Mh_sub (lv' := []) [] rfl ?_
    exact t_X11_cow_31 l E c0 s0  _ _
  · refine Mh_aload_n 0 rfl dX11_cow_19 ?_
    refine Mh_gR fd_10_0 fl_RX11_10 dX11_cow_20 ?_
    refine Mh_gI fd_5_7 fl_RX11_111 dX11_cow_23 ?_
    refine Mh_bipush (v := 16) dX11_cow_26 (by decide) ?_
    refine Mh_icmp_lt (tgt := 33) dX11_cow_28 (by decide) rfl (fun _ => ?_) (fun _ => ?_)
    · refine Mh_aload_n 0 rfl dX11_cow_33 ?_
      refine Mh_gR fd_10_0 fl_RX11_10 dX11_cow_34 ?_
      refine Mh_ok (fun h => h.1.2) ?_
      refine Mh_gI fd_5_7 fl_RX11_111 dX11_cow_37 ?_
      refine Mh_ok (fun h => h.2) ?_
      refine Mh_istore (lv' := [(5, .int (gI m (gR m l0 0) 7)), (0, .ref l0), (1, .int l1), (2, .int l2), (3, .int l3), (4, .int l4)]) dX11_cow_40 (Nat.le_of_ble_eq_true rfl) rfl ?_
      refine Mh_aload_n 1 rfl dX11_cow_42 ?_
      refine Mh_gR fd_10_0 fl_RX11_10 dX11_cow_43 ?_
      refine Mh_ok (fun h => h.1.2) ?_
      refine Mh_gR fd_5_1 fl_RX11_114 dX11_cow_46 ?_
      refine Mh_iload 0 rfl dX11_cow_49 ?_
      refine Mh_aal 25 (.inr rfl) dX11_cow_51 ?_
      refine Mh_iload_n 2 rfl dX11_cow_52 ?_
      refine Mh_iload_n 3 rfl dX11_cow_53 ?_
      refine Mh_iload_n 4 rfl dX11_cow_54 ?_
      refine Mh_if_eq (tgt := 63) dX11_cow_55 (by decide) rfl (fun _ => ?_) (fun _ => ?_)
      · refine Mh_iconst (v := 1) dX11_cow_63 (by decide) ?_
        refine Mh_sub (lv' := [(0, .ref l0), (4, .int l4), (5, .int (gI m (gR m l0 0) 7))]) [1, 5, 0] rfl ?_
        exact t_X11_cow_64 l E c0 s0 _ _ _ _ _ _ _ _ _
      · refine Mh_bipush (v := 9) dX11_cow_58 (by decide) ?_
        refine Mh_goto (tgt := 64) dX11_cow_60 (by decide) ?_
        refine Mh_sub (lv' := [(0, .ref l0), (4, .int l4), (5, .int (gI m (gR m l0 0) 7))]) [1, 5, 0] rfl ?_
        exact t_X11_cow_64 l E c0 s0 _ _ _ _ _ _ _ _ _
    · refine Mh_sub (lv' := []) [] rfl ?_
      exact t_X11_cow_31 l E c0 s0  _ _
def f_X11_cow_5 (l0 : Nat) (l1 : Int32) (l2 : Int32) (l3 : Int32) (l4 : Int32) (y0 : Int32) (m : Mm) (o : Prop) : Int32 × Mm × Prop := if y0 = 0 then (f_X11_cow_31  m o) else (bnd (F_X11_isWithin l4 (1 : Int32) (9 : Int32) m o) (fun v1 m1 o1 => f_X11_cow_16 l0 l1 l2 l3 l4 v1 m1 o1))
set_option maxRecDepth 10000 in
theorem t_X11_cow_5 (l : Launch) (E : En) (c0 s0 : Nat) (l0 : Nat) (l1 : Int32) (l2 : Int32) (l3 : Int32) (l4 : Int32) (y0 : Int32) (m : Mm) (o : Prop) : Mh wI l E mi_X11_cow c0 s0 5 [(0, .ref l0), (1, .int l1), (2, .int l2), (3, .int l3), (4, .int l4)] [.int y0] m o (f_X11_cow_5 l0 l1 l2 l3 l4 y0 m o) := by
  refine Mh_if_eq (tgt := 31) dX11_cow_5 (by decide) rfl (fun _ => ?_) (fun _ => ?_)
  · refine Mh_sub (lv' := []) [] rfl ?_
    exact t_X11_cow_31 l E c0 s0  _ _
  · refine Mh_iload 4 rfl dX11_cow_8 ?_
    refine Mh_iconst (v := 1) dX11_cow_10 (by decide) ?_
    refine Mh_bipush (v := 9) dX11_cow_11 (by decide) ?_
    refine Mh_csI (N := mi_X11_isWithin) (as := [.int l4, .int (1 : Int32), .int (9 : Int32)]) (st := []) cg_yX11_isWithin (.inl ml_RX11_90) sv_yX11_isWithin pd_yX11_isWithin rfl (by decide) (Nat.le_of_ble_eq_true rfl) rfl dX11_cow_13 (T_X11_isWithin l E _ _ _ _ _) rfl ?_
    exact t_X11_cow_16 l E c0 s0 _ _ _ _ _ _ _ _
def f_X11_cow_0 (l0 : Nat) (l1 : Int32) (l2 : Int32) (l3 : Int32) (l4 : Int32) (m : Mm) (o : Prop) : Int32 × Mm × Prop := bnd (F_X11_isSquare l1 l2 m o) (fun v1 m1 o1 => f_X11_cow_5 l0 l1 l2 l3 l4 v1 m1 o1)
set_option maxRecDepth 10000 in
theorem t_X11_cow_0 (l : Launch) (E : En) (c0 s0 : Nat) (l0 : Nat) (l1 : Int32) (l2 : Int32) (l3 : Int32) (l4 : Int32) (m : Mm) (o : Prop) : Mh wI l E mi_X11_cow c0 s0 0 [(0, .ref l0), (1, .int l1), (2, .int l2), (3, .int l3), (4, .int l4)] [] m o (f_X11_cow_0 l0 l1 l2 l3 l4 m o) := by
  refine Mh_iload_n 1 rfl dX11_cow_0 ?_
  refine Mh_iload_n 2 rfl dX11_cow_1 ?_
  refine Mh_csI (N := mi_X11_isSquare) (as := [.int l1, .int l2]) (st := []) cg_yX11_isSquare (.inl ml_RX11_82) sv_yX11_isSquare pd_yX11_isSquare rfl (by decide) (Nat.le_of_ble_eq_true rfl) rfl dX11_cow_2 (T_X11_isSquare l E _ _ _ _) rfl ?_
  exact t_X11_cow_5 l E c0 s0 _ _ _ _ _ _ _ _
def F_X11_cow (a0 : Nat) (a1 : Int32) (a2 : Int32) (a3 : Int32) (a4 : Int32) (m : Mm) (o : Prop) : Int32 × Mm × Prop := f_X11_cow_0 a0 a1 a2 a3 a4 m o
theorem T_X11_cow (l : Launch) (E : En) (a0 : Nat) (a1 : Int32) (a2 : Int32) (a3 : Int32) (a4 : Int32) (m : Mm) (o : Prop) : Mt wI l E yX11_cow mi_X11_cow [.ref a0, .int a1, .int a2, .int a3, .int a4] m o (F_X11_cow a0 a1 a2 a3 a4 m o) :=
  Mt_I (by decide) rfl rfl rfl (Nat.le_of_ble_eq_true rfl) rfl (.inl rfl) (t_X11_cow_0 l E _ _ _ _ _ _ _ _ _)
def f_X11_cowIs_106 (y0 : Int32) (m : Mm) (o : Prop) : Int32 × Mm × Prop := (y0, m, o)
set_option maxRecDepth 10000 in
theorem t_X11_cowIs_106 (l : Launch) (E : En) (c0 s0 : Nat) (y0 : Int32) (m : Mm) (o : Prop) : Mh wI l E mi_X11_cowIs c0 s0 106 [] [.int y0] m o (f_X11_cowIs_106 y0 m o) := by
  exact Mh_ret dX11_cowIs_106 rfl (fun _ => rfl) rfl
def f_X11_cowIs_88 (l2 : Int32) (l3 : Nat) (y0 : Int32) (m : Mm) (o : Prop) : Int32 × Mm × Prop := if y0 = 0 then (f_X11_cowIs_106 (-1000 : Int32) m o) else (f_X11_cowIs_106 (gI m (gR m l3 5) (ix (l2 - (10 : Int32)))) m ((o ∧ (gT m l3 = 2 ∧ gR m l3 5 ≠ 0)) ∧ (gT m (gR m l3 5) = 20 ∧ vp_in (l2 - (10 : Int32)) (gN m (gR m l3 5)))))
set_option maxRecDepth 10000 in
theorem t_X11_cowIs_88 (l : Launch) (E : En) (c0 s0 : Nat) (l2 : Int32) (l3 : Nat) (y0 : Int32) (m : Mm) (o : Prop) : Mh wI l E mi_X11_cowIs c0 s0 88 [(2, .int l2), (3, .ref l3)] [.int y0] m o (f_X11_cowIs_88 l2 l3 y0 m o) := by
  refine Mh_if_eq (tgt := 103) dX11_cowIs_88 (by decide) rfl (fun _ => ?_) (fun _ => ?_)
  · refine Mh_sipush (v := (-1000)) dX11_cowIs_103 (by decide) ?_
    refine Mh_sub (lv' := []) [] rfl ?_
    exact t_X11_cowIs_106 l E c0 s0 _ _ _
  · refine Mh_aload_n 1 rfl dX11_cowIs_91 ?_
    refine Mh_gR fd_1_5 fl_RX11_127 dX11_cowIs_92 ?_
    refine Mh_iload_n 0 rfl dX11_cowIs_95 ?_
    refine Mh_bipush (v := 10) dX11_cowIs_96 (by decide) ?_
    refine Mh_isub dX11_cowIs_98 ?_
    refine Mh_ial dX11_cowIs_99 ?_
    refine Mh_goto (tgt := 106) dX11_cowIs_100 (by decide) ?_
    refine Mh_sub (lv' := []) [] rfl ?_
    exact t_X11_cowIs_106 l E c0 s0 _ _ _
def f_X11_cowIs_5 (l0 : Nat) (l1 : Int32) (l2 : Int32) (y0 : Int32) (m : Mm) (o : Prop) : Int32 × Mm × Prop := if y0 = 0 then ((-1000 : Int32), m, o) else (if l2 = 0 then (((10 : Int32) * (gI m (gR m (gR m (gR m l0 0) 1) (ix l1)) 1)) + (gI m (gR m (gR m (gR m l0 0) 1) (ix l1)) 0), m, ((((o ∧ (gT m l0 = 11 ∧ gR m l0 0 ≠ 0)) ∧ (gT m (gR m l0 0) = 6 ∧ gR m (gR m l0 0) 1 ≠ 0)) ∧ (gT m (gR m (gR m l0 0) 1) = 25 ∧ vp_in l1 (gN m (gR m (gR m l0 0) 1)) ∧ gR m (gR m (gR m l0 0) 1) (ix l1) ≠ 0)) ∧ gT m (gR m (gR m (gR m l0 0) 1) (ix l1)) = 2)) else if l2 = 1 then (gI m (gR m (gR m (gR m l0 0) 1) (ix l1)) 2, m, ((((o ∧ (gT m l0 = 11 ∧ gR m l0 0 ≠ 0)) ∧ (gT m (gR m l0 0) = 6 ∧ gR m (gR m l0 0) 1 ≠ 0)) ∧ (gT m (gR m (gR m l0 0) 1) = 25 ∧ vp_in l1 (gN m (gR m (gR m l0 0) 1)) ∧ gR m (gR m (gR m l0 0) 1) (ix l1) ≠ 0)) ∧ gT m (gR m (gR m (gR m l0 0) 1) (ix l1)) = 2)) else if l2 = 2 then (gI m (gR m (gR m (gR m l0 0) 1) (ix l1)) 3, m, ((((o ∧ (gT m l0 = 11 ∧ gR m l0 0 ≠ 0)) ∧ (gT m (gR m l0 0) = 6 ∧ gR m (gR m l0 0) 1 ≠ 0)) ∧ (gT m (gR m (gR m l0 0) 1) = 25 ∧ vp_in l1 (gN m (gR m (gR m l0 0) 1)) ∧ gR m (gR m (gR m l0 0) 1) (ix l1) ≠ 0)) ∧ gT m (gR m (gR m (gR m l0 0) 1) (ix l1)) = 2)) else if l2 = 3 then (gI m (gR m (gR m (gR m l0 0) 1) (ix l1)) 4, m, ((((o ∧ (gT m l0 = 11 ∧ gR m l0 0 ≠ 0)) ∧ (gT m (gR m l0 0) = 6 ∧ gR m (gR m l0 0) 1 ≠ 0)) ∧ (gT m (gR m (gR m l0 0) 1) = 25 ∧ vp_in l1 (gN m (gR m (gR m l0 0) 1)) ∧ gR m (gR m (gR m l0 0) 1) (ix l1) ≠ 0)) ∧ gT m (gR m (gR m (gR m l0 0) 1) (ix l1)) = 2)) else (bnd (F_X11_isWithin l2 (10 : Int32) (14 : Int32) m (((o ∧ (gT m l0 = 11 ∧ gR m l0 0 ≠ 0)) ∧ (gT m (gR m l0 0) = 6 ∧ gR m (gR m l0 0) 1 ≠ 0)) ∧ (gT m (gR m (gR m l0 0) 1) = 25 ∧ vp_in l1 (gN m (gR m (gR m l0 0) 1)) ∧ gR m (gR m (gR m l0 0) 1) (ix l1) ≠ 0))) (fun v1 m1 o1 => f_X11_cowIs_88 l2 (gR m (gR m (gR m l0 0) 1) (ix l1)) v1 m1 o1)))
set_option maxRecDepth 10000 in
theorem t_X11_cowIs_5 (l : Launch) (E : En) (c0 s0 : Nat) (l0 : Nat) (l1 : Int32) (l2 : Int32) (y0 : Int32) (m : Mm) (o : Prop) : Mh wI l E mi_X11_cowIs c0 s0 5 [(0, .ref l0), (1, .int l1), (2, .int l2)] [.int y0] m o (f_X11_cowIs_5 l0 l1 l2 y0 m o) := by
  refine Mh_if_ne (tgt := 12) dX11_cowIs_5 (by decide) rfl (fun _ => ?_) (fun _ => ?_)
  · refine Mh_aload_n 0 rfl dX11_cowIs_12 ?_
    refine Mh_gR fd_10_0 fl_RX11_10 dX11_cowIs_13 ?_
    refine Mh_gR fd_5_1 fl_RX11_114 dX11_cowIs_16 ?_
    refine Mh_iload_n 1 rfl dX11_cowIs_19 ?_
    refine Mh_aal 25 (.inr rfl) dX11_cowIs_20 ?_
    refine Mh_astore_n (lv' := [(3, .ref (gR m (gR m (gR m l0 0) 1) (ix l1))), (0, .ref l0), (1, .int l1), (2, .int l2)]) dX11_cowIs_21 (Nat.le_of_ble_eq_true rfl) rfl ?_
    refine Mh_iload_n 3 rfl dX11_cowIs_22 ?_
    refine Mh_ite (C := l2 = 0) rfl (fun hs0 => ?_) (fun hs0 => ?_)
    · refine Mh_tsi (off := 29) (tgt := 52) dX11_cowIs_23 (by rw [hs0]; decide) (by rw [hs0]; decide) (by rw [hs0]; decide) (by decide) ?_
      refine Mh_bipush (v := 10) dX11_cowIs_52 (by decide) ?_
      refine Mh_aload_n 0 rfl dX11_cowIs_54 ?_
      refine Mh_gI fd_1_1 fl_RX11_206 dX11_cowIs_55 ?_
      refine Mh_imul dX11_cowIs_58 ?_
      refine Mh_aload_n 0 rfl dX11_cowIs_59 ?_
      refine Mh_gI fd_1_0 fl_RX11_207 dX11_cowIs_60 ?_
      refine Mh_ok (fun h => h.2) ?_
      refine Mh_iadd dX11_cowIs_63 ?_
      exact Mh_ret dX11_cowIs_64 rfl (fun _ => rfl) rfl
    refine Mh_ite (C := l2 = 1) rfl (fun hs1 => ?_) (fun hs1 => ?_)
    · refine Mh_tsi (off := 42) (tgt := 65) dX11_cowIs_23 (by rw [hs1]; decide) (by rw [hs1]; decide) (by rw [hs1]; decide) (by decide) ?_
      refine Mh_aload_n 0 rfl dX11_cowIs_65 ?_
      refine Mh_gI fd_1_2 fl_RX11_208 dX11_cowIs_66 ?_
      exact Mh_ret dX11_cowIs_69 rfl (fun _ => rfl) rfl
    refine Mh_ite (C := l2 = 2) rfl (fun hs2 => ?_) (fun hs2 => ?_)
    · refine Mh_tsi (off := 47) (tgt := 70) dX11_cowIs_23 (by rw [hs2]; decide) (by rw [hs2]; decide) (by rw [hs2]; decide) (by decide) ?_
      refine Mh_aload_n 0 rfl dX11_cowIs_70 ?_
      refine Mh_gI fd_1_3 fl_RX11_211 dX11_cowIs_71 ?_
      exact Mh_ret dX11_cowIs_74 rfl (fun _ => rfl) rfl
    refine Mh_ite (C := l2 = 3) rfl (fun hs3 => ?_) (fun hs3 => ?_)
    · refine Mh_tsi (off := 52) (tgt := 75) dX11_cowIs_23 (by rw [hs3]; decide) (by rw [hs3]; decide) (by rw [hs3]; decide) (by decide) ?_
      refine Mh_aload_n 0 rfl dX11_cowIs_75 ?_
      refine Mh_gI fd_1_4 fl_RX11_214 dX11_cowIs_76 ?_
      exact Mh_ret dX11_cowIs_79 rfl (fun _ => rfl) rfl
    refine Mh_tsd (tgt := 80) [0, 1, 2, 3] dX11_cowIs_23 (by decide) (by decide) (List.forall_mem_cons.mpr ⟨lv_neT hs0 (by decide), List.forall_mem_cons.mpr ⟨lv_neT hs1 (by decide), List.forall_mem_cons.mpr ⟨lv_neT hs2 (by decide), List.forall_mem_cons.mpr ⟨lv_neT hs3 (by decide), fun _ h => absurd h List.not_mem_nil⟩⟩⟩⟩) (by decide) ?_
    refine Mh_iload_n 3 rfl dX11_cowIs_80 ?_
    refine Mh_bipush (v := 10) dX11_cowIs_81 (by decide) ?_
    refine Mh_bipush (v := 14) dX11_cowIs_83 (by decide) ?_
    refine Mh_csI (N := mi_X11_isWithin) (as := [.int l2, .int (10 : Int32), .int (14 : Int32)]) (st := []) cg_yX11_isWithin (.inl ml_RX11_90) sv_yX11_isWithin pd_yX11_isWithin rfl (by decide) (Nat.le_of_ble_eq_true rfl) rfl dX11_cowIs_85 (T_X11_isWithin l E _ _ _ _ _) rfl ?_
    refine Mh_sub (lv' := [(2, .int l2), (3, .ref (gR m (gR m (gR m l0 0) 1) (ix l1)))]) [3, 0] rfl ?_
    exact t_X11_cowIs_88 l E c0 s0 _ _ _ _ _
  · refine Mh_sipush (v := (-1000)) dX11_cowIs_8 (by decide) ?_
    exact Mh_ret dX11_cowIs_11 rfl (fun _ => rfl) rfl
def f_X11_cowIs_0 (l0 : Nat) (l1 : Int32) (l2 : Int32) (m : Mm) (o : Prop) : Int32 × Mm × Prop := bnd (F_X11_hasCow l0 l1 m (o ∧ gT m l0 = 11)) (fun v1 m1 o1 => f_X11_cowIs_5 l0 l1 l2 v1 m1 o1)
set_option maxRecDepth 10000 in
theorem t_X11_cowIs_0 (l : Launch) (E : En) (c0 s0 : Nat) (l0 : Nat) (l1 : Int32) (l2 : Int32) (m : Mm) (o : Prop) : Mh wI l E mi_X11_cowIs c0 s0 0 [(0, .ref l0), (1, .int l1), (2, .int l2)] [] m o (f_X11_cowIs_0 l0 l1 l2 m o) := by
  refine Mh_aload_n 0 rfl dX11_cowIs_0 ?_
  refine Mh_iload_n 1 rfl dX11_cowIs_1 ?_
  refine Mh_cvI (N := mi_X11_hasCow) (q := l0) (ci := 10) (as := [.int l1]) (st := []) (id) cg_yX11_hasCow (by decide) rfl rfl ml_RX11_124 iv_yX11_hasCow pd_yX11_hasCow rfl (by decide) (Nat.le_of_ble_eq_true rfl) rfl dX11_cowIs_2 (T_X11_hasCow l E _ _ _ _) rfl ?_
  exact t_X11_cowIs_5 l E c0 s0 _ _ _ _ _ _
def F_X11_cowIs (a0 : Nat) (a1 : Int32) (a2 : Int32) (m : Mm) (o : Prop) : Int32 × Mm × Prop := f_X11_cowIs_0 a0 a1 a2 m o
theorem T_X11_cowIs (l : Launch) (E : En) (a0 : Nat) (a1 : Int32) (a2 : Int32) (m : Mm) (o : Prop) : Mt wI l E yX11_cowIs mi_X11_cowIs [.ref a0, .int a1, .int a2] m o (F_X11_cowIs a0 a1 a2 m o) :=
  Mt_I (by decide) rfl rfl rfl (Nat.le_of_ble_eq_true rfl) rfl (.inl rfl) (t_X11_cowIs_0 l E _ _ _ _ _ _ _)
def f_X2_holder_44 (k8 : Nat → Int32 → Int32 → Int32 → Int32 → Mm → Prop → Int32 × Mm × Prop) (l0 : Nat) (l1 : Int32) (l2 : Int32) (l3 : Int32) (l4 : Int32) (m : Mm) (o : Prop) : Int32 × Mm × Prop := k8 l0 l1 l2 l3 (l4 + 1) m o
set_option maxRecDepth 10000 in
theorem t_X2_holder_44 (l : Launch) (E : En) (c0 s0 : Nat) (k8 : Nat → Int32 → Int32 → Int32 → Int32 → Mm → Prop → Int32 × Mm × Prop) (hk8 : ∀ (l0 : Nat) (l1 : Int32) (l2 : Int32) (l3 : Int32) (l4 : Int32) (m : Mm) (o : Prop), Mh wI l E mi_X2_holder c0 s0 8 [(0, .ref l0), (1, .int l1), (2, .int l2), (3, .int l3), (4, .int l4)] [] m o (k8 l0 l1 l2 l3 l4 m o)) (l0 : Nat) (l1 : Int32) (l2 : Int32) (l3 : Int32) (l4 : Int32) (m : Mm) (o : Prop) : Mh wI l E mi_X2_holder c0 s0 44 [(0, .ref l0), (1, .int l1), (2, .int l2), (3, .int l3), (4, .int l4)] [] m o (f_X2_holder_44 k8 l0 l1 l2 l3 l4 m o) := by
  refine Mh_iinc (v := l4 + 1) (lv' := [(4, .int (l4 + 1)), (0, .ref l0), (1, .int l1), (2, .int l2), (3, .int l3)]) 4 dX2_holder_44 rfl rfl (Nat.le_of_ble_eq_true rfl) rfl ?_
  refine Mh_goto (tgt := 8) dX2_holder_47 (by decide) ?_
  refine Mh_sub (lv' := [(0, .ref l0), (1, .int l1), (2, .int l2), (3, .int l3), (4, .int (l4 + 1))]) [1, 2, 3, 4, 0] rfl ?_
  exact hk8 _ _ _ _ _ _ _
def f_X2_holder_8b (k8 : Nat → Int32 → Int32 → Int32 → Int32 → Mm → Prop → Int32 × Mm × Prop) (l0 : Nat) (l1 : Int32) (l2 : Int32) (l3 : Int32) (l4 : Int32) (m : Mm) (o : Prop) : Int32 × Mm × Prop := if (5 : Int32) ≤ l4 then (l2, m, o) else (if (gI m (gR m l0 0) (ix ((l1 * (5 : Int32)) + l4))) ≤ l3 then (f_X2_holder_44 k8 l0 l1 l2 l3 l4 m ((o ∧ (gT m l0 = 3 ∧ gR m l0 0 ≠ 0)) ∧ (gT m (gR m l0 0) = 20 ∧ vp_in ((l1 * (5 : Int32)) + l4) (gN m (gR m l0 0))))) else (f_X2_holder_44 k8 l0 l1 l4 (gI m (gR m l0 0) (ix ((l1 * (5 : Int32)) + l4))) l4 m ((o ∧ (gT m l0 = 3 ∧ gR m l0 0 ≠ 0)) ∧ (gT m (gR m l0 0) = 20 ∧ vp_in ((l1 * (5 : Int32)) + l4) (gN m (gR m l0 0))))))
set_option maxRecDepth 10000 in
theorem t_X2_holder_8b (l : Launch) (E : En) (c0 s0 : Nat) (k8 : Nat → Int32 → Int32 → Int32 → Int32 → Mm → Prop → Int32 × Mm × Prop) (hk8 : ∀ (l0 : Nat) (l1 : Int32) (l2 : Int32) (l3 : Int32) (l4 : Int32) (m : Mm) (o : Prop), Mh wI l E mi_X2_holder c0 s0 8 [(0, .ref l0), (1, .int l1), (2, .int l2), (3, .int l3), (4, .int l4)] [] m o (k8 l0 l1 l2 l3 l4 m o)) (l0 : Nat) (l1 : Int32) (l2 : Int32) (l3 : Int32) (l4 : Int32) (m : Mm) (o : Prop) : Mh wI l E mi_X2_holder c0 s0 8 [(0, .ref l0), (1, .int l1), (2, .int l2), (3, .int l3), (4, .int l4)] [] m o (f_X2_holder_8b k8 l0 l1 l2 l3 l4 m o) := by
  refine Mh_iload 4 rfl dX2_holder_8 ?_
  refine Mh_iconst (v := 5) dX2_holder_10 (by decide) ?_
  refine Mh_icmp_ge (tgt := 50) dX2_holder_11 (by decide) rfl (fun _ => ?_) (fun _ => ?_)
  · refine Mh_iload_n 2 rfl dX2_holder_50 ?_
    exact Mh_ret dX2_holder_51 rfl (fun _ => rfl) rfl
  · refine Mh_aload_n 0 rfl dX2_holder_14 ?_
    refine Mh_gR fd_2_0 fl_RX2_11 dX2_holder_15 ?_
    refine Mh_iload_n 1 rfl dX2_holder_18 ?_
    refine Mh_iconst (v := 5) dX2_holder_19 (by decide) ?_
    refine Mh_imul dX2_holder_20 ?_
    refine Mh_iload 4 rfl dX2_holder_21 ?_
    refine Mh_iadd dX2_holder_23 ?_
    refine Mh_ial dX2_holder_24 ?_
    refine Mh_iload_n 3 rfl dX2_holder_25 ?_
    refine Mh_icmp_le (tgt := 44) dX2_holder_26 (by decide) rfl (fun _ => ?_) (fun _ => ?_)
    · exact t_X2_holder_44 l E c0 s0 k8 hk8 _ _ _ _ _ _ _
    · refine Mh_aload_n 0 rfl dX2_holder_29 ?_
      refine Mh_gR fd_2_0 fl_RX2_11 dX2_holder_30 ?_
      refine Mh_ok (fun h => h.1.2) ?_
      refine Mh_iload_n 1 rfl dX2_holder_33 ?_
      refine Mh_iconst (v := 5) dX2_holder_34 (by decide) ?_
      refine Mh_imul dX2_holder_35 ?_
      refine Mh_iload 4 rfl dX2_holder_36 ?_
      refine Mh_iadd dX2_holder_38 ?_
      refine Mh_ial dX2_holder_39 ?_
      refine Mh_ok (fun h => h.2) ?_
      refine Mh_istore_n (lv' := [(3, .int (gI m (gR m l0 0) (ix ((l1 * (5 : Int32)) + l4)))), (0, .ref l0), (1, .int l1), (2, .int l2), (4, .int l4)]) dX2_holder_40 (Nat.le_of_ble_eq_true rfl) rfl ?_
      refine Mh_iload 4 rfl dX2_holder_41 ?_
      refine Mh_istore_n (lv' := [(2, .int l4), (3, .int (gI m (gR m l0 0) (ix ((l1 * (5 : Int32)) + l4)))), (0, .ref l0), (1, .int l1), (4, .int l4)]) dX2_holder_43 (Nat.le_of_ble_eq_true rfl) rfl ?_
      refine Mh_sub (lv' := [(0, .ref l0), (1, .int l1), (2, .int l4), (3, .int (gI m (gR m l0 0) (ix ((l1 * (5 : Int32)) + l4)))), (4, .int l4)]) [2, 3, 0, 1, 4] rfl ?_
      exact t_X2_holder_44 l E c0 s0 k8 hk8 _ _ _ _ _ _ _
def f_X2_holder_8 : Nat → Nat → Int32 → Int32 → Int32 → Int32 → Mm → Prop → Int32 × Mm × Prop
  | 0, _, _, _, _, _, m, _ => (0, m, False)
  | n + 1, l0, l1, l2, l3, l4, m, o => f_X2_holder_8b (f_X2_holder_8 n) l0 l1 l2 l3 l4 m o
theorem t_X2_holder_8 (l : Launch) (E : En) (c0 s0 : Nat) : ∀ (n : Nat) (l0 : Nat) (l1 : Int32) (l2 : Int32) (l3 : Int32) (l4 : Int32) (m : Mm) (o : Prop), Mh wI l E mi_X2_holder c0 s0 8 [(0, .ref l0), (1, .int l1), (2, .int l2), (3, .int l3), (4, .int l4)] [] m o (f_X2_holder_8 n l0 l1 l2 l3 l4 m o)
  | 0, _, _, _, _, _, _, _ => Mh_out rfl
  | n + 1, l0, l1, l2, l3, l4, m, o => t_X2_holder_8b l E c0 s0 (f_X2_holder_8 n) (t_X2_holder_8 l E c0 s0 n) l0 l1 l2 l3 l4 m o
def f_X2_holder_0 (l0 : Nat) (l1 : Int32) (m : Mm) (o : Prop) : Int32 × Mm × Prop := f_X2_holder_8 1000 l0 l1 (-2 : Int32) (0 : Int32) (0 : Int32) m o
set_option maxRecDepth 10000 in
theorem t_X2_holder_0 (l : Launch) (E : En) (c0 s0 : Nat) (l0 : Nat) (l1 : Int32) (m : Mm) (o : Prop) : Mh wI l E mi_X2_holder c0 s0 0 [(0, .ref l0), (1, .int l1)] [] m o (f_X2_holder_0 l0 l1 m o) := by
  refine Mh_bipush (v := (-2)) dX2_holder_0 (by decide) ?_
  refine Mh_istore_n (lv' := [(2, .int (-2 : Int32)), (0, .ref l0), (1, .int l1)]) dX2_holder_2 (Nat.le_of_ble_eq_true rfl) rfl ?_
  refine Mh_iconst (v := 0) dX2_holder_3 (by decide) ?_
  refine Mh_istore_n (lv' := [(3, .int (0 : Int32)), (2, .int (-2 : Int32)), (0, .ref l0), (1, .int l1)]) dX2_holder_4 (Nat.le_of_ble_eq_true rfl) rfl ?_
  refine Mh_iconst (v := 0) dX2_holder_5 (by decide) ?_
  refine Mh_istore (lv' := [(4, .int (0 : Int32)), (3, .int (0 : Int32)), (2, .int (-2 : Int32)), (0, .ref l0), (1, .int l1)]) dX2_holder_6 (Nat.le_of_ble_eq_true rfl) rfl ?_
  refine Mh_sub (lv' := [(0, .ref l0), (1, .int l1), (2, .int (-2 : Int32)), (3, .int (0 : Int32)), (4, .int (0 : Int32))]) [3, 4, 2, 1, 0] rfl ?_
  exact t_X2_holder_8 l E c0 s0 _ _ _ _ _ _ _ _
def F_X2_holder (a0 : Nat) (a1 : Int32) (m : Mm) (o : Prop) : Int32 × Mm × Prop := f_X2_holder_0 a0 a1 m o
theorem T_X2_holder (l : Launch) (E : En) (a0 : Nat) (a1 : Int32) (m : Mm) (o : Prop) : Mt wI l E yX2_holder mi_X2_holder [.ref a0, .int a1] m o (F_X2_holder a0 a1 m o) :=
  Mt_I (by decide) rfl rfl rfl (Nat.le_of_ble_eq_true rfl) rfl (.inl rfl) (t_X2_holder_0 l E _ _ _ _ _ _)
def f_X2_seatsOf_24 (k4 : Nat → Int32 → Int32 → Int32 → Mm → Prop → Int32 × Mm × Prop) (l0 : Nat) (l1 : Int32) (l3 : Int32) (y1 : Int32) (y0 : Int32) (m : Mm) (o : Prop) : Int32 × Mm × Prop := k4 l0 l1 (y0 + y1) (l3 + 1) m o
set_option maxRecDepth 10000 in
theorem t_X2_seatsOf_24 (l : Launch) (E : En) (c0 s0 : Nat) (k4 : Nat → Int32 → Int32 → Int32 → Mm → Prop → Int32 × Mm × Prop) (hk4 : ∀ (l0 : Nat) (l1 : Int32) (l2 : Int32) (l3 : Int32) (m : Mm) (o : Prop), Mh wI l E mi_X2_seatsOf c0 s0 4 [(0, .ref l0), (1, .int l1), (2, .int l2), (3, .int l3)] [] m o (k4 l0 l1 l2 l3 m o)) (l0 : Nat) (l1 : Int32) (l3 : Int32) (y1 : Int32) (y0 : Int32) (m : Mm) (o : Prop) : Mh wI l E mi_X2_seatsOf c0 s0 24 [(0, .ref l0), (1, .int l1), (3, .int l3)] [.int y1, .int y0] m o (f_X2_seatsOf_24 k4 l0 l1 l3 y1 y0 m o) := by
  refine Mh_iadd dX2_seatsOf_24 ?_
  refine Mh_istore_n (lv' := [(2, .int (y0 + y1)), (0, .ref l0), (1, .int l1), (3, .int l3)]) dX2_seatsOf_25 (Nat.le_of_ble_eq_true rfl) rfl ?_
  refine Mh_iinc (v := l3 + 1) (lv' := [(3, .int (l3 + 1)), (2, .int (y0 + y1)), (0, .ref l0), (1, .int l1)]) 3 dX2_seatsOf_26 rfl rfl (Nat.le_of_ble_eq_true rfl) rfl ?_
  refine Mh_goto (tgt := 4) dX2_seatsOf_29 (by decide) ?_
  refine Mh_sub (lv' := [(0, .ref l0), (1, .int l1), (2, .int (y0 + y1)), (3, .int (l3 + 1))]) [2, 3, 1, 0] rfl ?_
  exact hk4 _ _ _ _ _ _
def f_X2_seatsOf_15 (k4 : Nat → Int32 → Int32 → Int32 → Mm → Prop → Int32 × Mm × Prop) (l0 : Nat) (l1 : Int32) (l3 : Int32) (y1 : Int32) (y0 : Int32) (m : Mm) (o : Prop) : Int32 × Mm × Prop := if y1 = l1 then (f_X2_seatsOf_24 k4 l0 l1 l3 (1 : Int32) y0 m o) else (f_X2_seatsOf_24 k4 l0 l1 l3 (0 : Int32) y0 m o)
set_option maxRecDepth 10000 in
theorem t_X2_seatsOf_15 (l : Launch) (E : En) (c0 s0 : Nat) (k4 : Nat → Int32 → Int32 → Int32 → Mm → Prop → Int32 × Mm × Prop) (hk4 : ∀ (l0 : Nat) (l1 : Int32) (l2 : Int32) (l3 : Int32) (m : Mm) (o : Prop), Mh wI l E mi_X2_seatsOf c0 s0 4 [(0, .ref l0), (1, .int l1), (2, .int l2), (3, .int l3)] [] m o (k4 l0 l1 l2 l3 m o)) (l0 : Nat) (l1 : Int32) (l3 : Int32) (y1 : Int32) (y0 : Int32) (m : Mm) (o : Prop) : Mh wI l E mi_X2_seatsOf c0 s0 15 [(0, .ref l0), (1, .int l1), (3, .int l3)] [.int y1, .int y0] m o (f_X2_seatsOf_15 k4 l0 l1 l3 y1 y0 m o) := by
  refine Mh_iload_n 1 rfl dX2_seatsOf_15 ?_
  refine Mh_icmp_ne (tgt := 23) dX2_seatsOf_16 (by decide) rfl (fun _ => ?_) (fun _ => ?_)
  · refine Mh_iconst (v := 0) dX2_seatsOf_23 (by decide) ?_
    exact t_X2_seatsOf_24 l E c0 s0 k4 hk4 _ _ _ _ _ _ _
  · refine Mh_iconst (v := 1) dX2_seatsOf_19 (by decide) ?_
    refine Mh_goto (tgt := 24) dX2_seatsOf_20 (by decide) ?_
    exact t_X2_seatsOf_24 l E c0 s0 k4 hk4 _ _ _ _ _ _ _
def f_X2_seatsOf_4b (k4 : Nat → Int32 → Int32 → Int32 → Mm → Prop → Int32 × Mm × Prop) (l0 : Nat) (l1 : Int32) (l2 : Int32) (l3 : Int32) (m : Mm) (o : Prop) : Int32 × Mm × Prop := if (4 : Int32) ≤ l3 then (l2, m, o) else (bnd (F_X2_holder l0 l3 m (o ∧ gT m l0 = 3)) (fun v1 m1 o1 => f_X2_seatsOf_15 k4 l0 l1 l3 v1 l2 m1 o1))
set_option maxRecDepth 10000 in
theorem t_X2_seatsOf_4b (l : Launch) (E : En) (c0 s0 : Nat) (k4 : Nat → Int32 → Int32 → Int32 → Mm → Prop → Int32 × Mm × Prop) (hk4 : ∀ (l0 : Nat) (l1 : Int32) (l2 : Int32) (l3 : Int32) (m : Mm) (o : Prop), Mh wI l E mi_X2_seatsOf c0 s0 4 [(0, .ref l0), (1, .int l1), (2, .int l2), (3, .int l3)] [] m o (k4 l0 l1 l2 l3 m o)) (l0 : Nat) (l1 : Int32) (l2 : Int32) (l3 : Int32) (m : Mm) (o : Prop) : Mh wI l E mi_X2_seatsOf c0 s0 4 [(0, .ref l0), (1, .int l1), (2, .int l2), (3, .int l3)] [] m o (f_X2_seatsOf_4b k4 l0 l1 l2 l3 m o) := by
  refine Mh_iload_n 3 rfl dX2_seatsOf_4 ?_
  refine Mh_iconst (v := 4) dX2_seatsOf_5 (by decide) ?_
  refine Mh_icmp_ge (tgt := 32) dX2_seatsOf_6 (by decide) rfl (fun _ => ?_) (fun _ => ?_)
  · refine Mh_iload_n 2 rfl dX2_seatsOf_32 ?_
    exact Mh_ret dX2_seatsOf_33 rfl (fun _ => rfl) rfl
  · refine Mh_iload_n 2 rfl dX2_seatsOf_9 ?_
    refine Mh_aload_n 0 rfl dX2_seatsOf_10 ?_
    refine Mh_iload_n 3 rfl dX2_seatsOf_11 ?_
    refine Mh_cvI (N := mi_X2_holder) (q := l0) (ci := 2) (as := [.int l3]) (st := [.int l2]) (id) cg_yX2_holder (by decide) rfl rfl ml_RX2_39 iv_yX2_holder pd_yX2_holder rfl (by decide) (Nat.le_of_ble_eq_true rfl) rfl dX2_seatsOf_12 (T_X2_holder l E _ _ _ _) rfl ?_
    refine Mh_sub (lv' := [(0, .ref l0), (1, .int l1), (3, .int l3)]) [0, 1, 3] rfl ?_
    exact t_X2_seatsOf_15 l E c0 s0 k4 hk4 _ _ _ _ _ _ _
def f_X2_seatsOf_4 : Nat → Nat → Int32 → Int32 → Int32 → Mm → Prop → Int32 × Mm × Prop
  | 0, _, _, _, _, m, _ => (0, m, False)
  | n + 1, l0, l1, l2, l3, m, o => f_X2_seatsOf_4b (f_X2_seatsOf_4 n) l0 l1 l2 l3 m o
theorem t_X2_seatsOf_4 (l : Launch) (E : En) (c0 s0 : Nat) : ∀ (n : Nat) (l0 : Nat) (l1 : Int32) (l2 : Int32) (l3 : Int32) (m : Mm) (o : Prop), Mh wI l E mi_X2_seatsOf c0 s0 4 [(0, .ref l0), (1, .int l1), (2, .int l2), (3, .int l3)] [] m o (f_X2_seatsOf_4 n l0 l1 l2 l3 m o)
  | 0, _, _, _, _, _, _ => Mh_out rfl
  | n + 1, l0, l1, l2, l3, m, o => t_X2_seatsOf_4b l E c0 s0 (f_X2_seatsOf_4 n) (t_X2_seatsOf_4 l E c0 s0 n) l0 l1 l2 l3 m o
def f_X2_seatsOf_0 (l0 : Nat) (l1 : Int32) (m : Mm) (o : Prop) : Int32 × Mm × Prop := f_X2_seatsOf_4 1000 l0 l1 (0 : Int32) (0 : Int32) m o
set_option maxRecDepth 10000 in
theorem t_X2_seatsOf_0 (l : Launch) (E : En) (c0 s0 : Nat) (l0 : Nat) (l1 : Int32) (m : Mm) (o : Prop) : Mh wI l E mi_X2_seatsOf c0 s0 0 [(0, .ref l0), (1, .int l1)] [] m o (f_X2_seatsOf_0 l0 l1 m o) := by
  refine Mh_iconst (v := 0) dX2_seatsOf_0 (by decide) ?_
  refine Mh_istore_n (lv' := [(2, .int (0 : Int32)), (0, .ref l0), (1, .int l1)]) dX2_seatsOf_1 (Nat.le_of_ble_eq_true rfl) rfl ?_
  refine Mh_iconst (v := 0) dX2_seatsOf_2 (by decide) ?_
  refine Mh_istore_n (lv' := [(3, .int (0 : Int32)), (2, .int (0 : Int32)), (0, .ref l0), (1, .int l1)]) dX2_seatsOf_3 (Nat.le_of_ble_eq_true rfl) rfl ?_
  refine Mh_sub (lv' := [(0, .ref l0), (1, .int l1), (2, .int (0 : Int32)), (3, .int (0 : Int32))]) [2, 3, 1, 0] rfl ?_
  exact t_X2_seatsOf_4 l E c0 s0 _ _ _ _ _ _ _
def F_X2_seatsOf (a0 : Nat) (a1 : Int32) (m : Mm) (o : Prop) : Int32 × Mm × Prop := f_X2_seatsOf_0 a0 a1 m o
theorem T_X2_seatsOf (l : Launch) (E : En) (a0 : Nat) (a1 : Int32) (m : Mm) (o : Prop) : Mt wI l E yX2_seatsOf mi_X2_seatsOf [.ref a0, .int a1] m o (F_X2_seatsOf a0 a1 m o) :=
  Mt_I (by decide) rfl rfl rfl (Nat.le_of_ble_eq_true rfl) rfl (.inl rfl) (t_X2_seatsOf_0 l E _ _ _ _ _ _)
def f_X2_tally_18 (k3 : Nat → Nat → Int32 → Int32 → Int32 → Mm → Prop → Unit × Mm × Prop) (l0 : Nat) (l1 : Nat) (l2 : Int32) (l3 : Int32) (l4 : Int32) (m : Mm) (o : Prop) : Unit × Mm × Prop := k3 l0 l1 l2 l3 (l4 + 1) m o
set_option maxRecDepth 10000 in
theorem t_X2_tally_18 (l : Launch) (E : En) (c0 s0 : Nat) (k3 : Nat → Nat → Int32 → Int32 → Int32 → Mm → Prop → Unit × Mm × Prop) (hk3 : ∀ (l0 : Nat) (l1 : Nat) (l2 : Int32) (l3 : Int32) (l4 : Int32) (m : Mm) (o : Prop), Mh wU l E mi_X2_tally c0 s0 3 [(0, .ref l0), (1, .ref l1), (2, .int l2), (3, .int l3), (4, .int l4)] [] m o (k3 l0 l1 l2 l3 l4 m o)) (l0 : Nat) (l1 : Nat) (l2 : Int32) (l3 : Int32) (l4 : Int32) (m : Mm) (o : Prop) : Mh wU l E mi_X2_tally c0 s0 18 [(0, .ref l0), (1, .ref l1), (2, .int l2), (3, .int l3), (4, .int l4)] [] m o (f_X2_tally_18 k3 l0 l1 l2 l3 l4 m o) := by
  refine Mh_iinc (v := l4 + 1) (lv' := [(4, .int (l4 + 1)), (0, .ref l0), (1, .ref l1), (2, .int l2), (3, .int l3)]) 4 dX2_tally_18 rfl rfl (Nat.le_of_ble_eq_true rfl) rfl ?_
  refine Mh_goto (tgt := 3) dX2_tally_21 (by decide) ?_
  refine Mh_sub (lv' := [(0, .ref l0), (1, .ref l1), (2, .int l2), (3, .int l3), (4, .int (l4 + 1))]) [1, 2, 3, 4, 0] rfl ?_
  exact hk3 _ _ _ _ _ _ _
def f_X2_tally_109 (k27 : Nat → Nat → Int32 → Int32 → Int32 → Mm → Prop → Unit × Mm × Prop) (l0 : Nat) (l1 : Nat) (l2 : Int32) (l3 : Int32) (l4 : Int32) (m : Mm) (o : Prop) : Unit × Mm × Prop := k27 l0 l1 l2 l3 (l4 + 1) m o
set_option maxRecDepth 10000 in
theorem t_X2_tally_109 (l : Launch) (E : En) (c0 s0 : Nat) (k27 : Nat → Nat → Int32 → Int32 → Int32 → Mm → Prop → Unit × Mm × Prop) (hk27 : ∀ (l0 : Nat) (l1 : Nat) (l2 : Int32) (l3 : Int32) (l4 : Int32) (m : Mm) (o : Prop), Mh wU l E mi_X2_tally c0 s0 27 [(0, .ref l0), (1, .ref l1), (2, .int l2), (3, .int l3), (4, .int l4)] [] m o (k27 l0 l1 l2 l3 l4 m o)) (l0 : Nat) (l1 : Nat) (l2 : Int32) (l3 : Int32) (l4 : Int32) (m : Mm) (o : Prop) : Mh wU l E mi_X2_tally c0 s0 109 [(0, .ref l0), (1, .ref l1), (2, .int l2), (3, .int l3), (4, .int l4)] [] m o (f_X2_tally_109 k27 l0 l1 l2 l3 l4 m o) := by
  refine Mh_iinc (v := l4 + 1) (lv' := [(4, .int (l4 + 1)), (0, .ref l0), (1, .ref l1), (2, .int l2), (3, .int l3)]) 4 dX2_tally_109 rfl rfl (Nat.le_of_ble_eq_true rfl) rfl ?_
  refine Mh_goto (tgt := 27) dX2_tally_112 (by decide) ?_
  refine Mh_sub (lv' := [(0, .ref l0), (1, .ref l1), (2, .int l2), (3, .int l3), (4, .int (l4 + 1))]) [1, 2, 3, 4, 0] rfl ?_
  exact hk27 _ _ _ _ _ _ _
def f_X2_tally_73 (k27 : Nat → Nat → Int32 → Int32 → Int32 → Mm → Prop → Unit × Mm × Prop) (l0 : Nat) (l1 : Nat) (l2 : Int32) (l3 : Int32) (l4 : Int32) (l5 : Nat) (y1 : Int32) (y0 : Int32) (m : Mm) (o : Prop) : Unit × Mm × Prop := if (gI m l5 4) = (-2 : Int32) then (f_X2_tally_109 k27 l0 l1 l2 l3 l4 m (o ∧ gT m l5 = 2)) else (f_X2_tally_109 k27 l0 l1 l2 l3 l4 (sI m (gR m l0 0) (ix (((y0 + y1) * (5 : Int32)) + (gI m l5 4))) ((gI m (gR m l0 0) (ix (((y0 + y1) * (5 : Int32)) + (gI m l5 4)))) + (gI m l5 2))) (((o ∧ gT m l5 = 2) ∧ (gT m l0 = 3 ∧ gR m l0 0 ≠ 0)) ∧ (gT m (gR m l0 0) = 20 ∧ vp_in (((y0 + y1) * (5 : Int32)) + (gI m l5 4)) (gN m (gR m l0 0)))))
set_option maxRecDepth 10000 in
theorem t_X2_tally_73 (l : Launch) (E : En) (c0 s0 : Nat) (k27 : Nat → Nat → Int32 → Int32 → Int32 → Mm → Prop → Unit × Mm × Prop) (hk27 : ∀ (l0 : Nat) (l1 : Nat) (l2 : Int32) (l3 : Int32) (l4 : Int32) (m : Mm) (o : Prop), Mh wU l E mi_X2_tally c0 s0 27 [(0, .ref l0), (1, .ref l1), (2, .int l2), (3, .int l3), (4, .int l4)] [] m o (k27 l0 l1 l2 l3 l4 m o)) (l0 : Nat) (l1 : Nat) (l2 : Int32) (l3 : Int32) (l4 : Int32) (l5 : Nat) (y1 : Int32) (y0 : Int32) (m : Mm) (o : Prop) : Mh wU l E mi_X2_tally c0 s0 73 [(0, .ref l0), (1, .ref l1), (2, .int l2), (3, .int l3), (4, .int l4), (5, .ref l5)] [.int y1, .int y0] m o (f_X2_tally_73 k27 l0 l1 l2 l3 l4 l5 y1 y0 m o) := by
  refine Mh_iadd dX2_tally_73 ?_
  refine Mh_istore (lv' := [(6, .int (y0 + y1)), (0, .ref l0), (1, .ref l1), (2, .int l2), (3, .int l3), (4, .int l4), (5, .ref l5)]) dX2_tally_74 (Nat.le_of_ble_eq_true rfl) rfl ?_
  refine Mh_aload 6 rfl dX2_tally_76 ?_
  refine Mh_gI fd_1_4 fl_RX2_33 dX2_tally_78 ?_
  refine Mh_bipush (v := (-2)) dX2_tally_81 (by decide) ?_
  refine Mh_icmp_eq (tgt := 109) dX2_tally_83 (by decide) rfl (fun _ => ?_) (fun _ => ?_)
  · refine Mh_sub (lv' := [(0, .ref l0), (1, .ref l1), (2, .int l2), (3, .int l3), (4, .int l4)]) [1, 2, 3, 4, 5] rfl ?_
    exact t_X2_tally_109 l E c0 s0 k27 hk27 _ _ _ _ _ _ _
  · refine Mh_aload_n 1 rfl dX2_tally_86 ?_
    refine Mh_gR fd_2_0 fl_RX2_11 dX2_tally_87 ?_
    refine Mh_iload 0 rfl dX2_tally_90 ?_
    refine Mh_iconst (v := 5) dX2_tally_92 (by decide) ?_
    refine Mh_imul dX2_tally_93 ?_
    refine Mh_aload 6 rfl dX2_tally_94 ?_
    refine Mh_gI fd_1_4 fl_RX2_33 dX2_tally_96 ?_
    refine Mh_ok (fun h => h.1.2) ?_
    refine Mh_iadd dX2_tally_99 ?_
    refine Mh_dup2 dX2_tally_100 rfl rfl ?_
    refine Mh_ial dX2_tally_101 ?_
    refine Mh_aload 6 rfl dX2_tally_102 ?_
    refine Mh_gI fd_1_2 fl_RX2_36 dX2_tally_104 ?_
    refine Mh_ok (fun h => h.1.1.2) ?_
    refine Mh_iadd dX2_tally_107 ?_
    refine Mh_ias dX2_tally_108 ?_
    refine Mh_ok (fun h => h.2) ?_
    refine Mh_sub (lv' := [(0, .ref l0), (1, .ref l1), (2, .int l2), (3, .int l3), (4, .int l4)]) [1, 2, 3, 4, 5] rfl ?_
    exact t_X2_tally_109 l E c0 s0 k27 hk27 _ _ _ _ _ _ _
def f_X2_tally_59 (k27 : Nat → Nat → Int32 → Int32 → Int32 → Mm → Prop → Unit × Mm × Prop) (l0 : Nat) (l1 : Nat) (l2 : Int32) (l3 : Int32) (l4 : Int32) (l5 : Nat) (y0 : Int32) (m : Mm) (o : Prop) : Unit × Mm × Prop := if l2 ≤ (gI m l5 0) then (f_X2_tally_73 k27 l0 l1 l2 l3 l4 l5 (1 : Int32) y0 m (o ∧ gT m l5 = 2)) else (f_X2_tally_73 k27 l0 l1 l2 l3 l4 l5 (0 : Int32) y0 m (o ∧ gT m l5 = 2))
set_option maxRecDepth 10000 in
theorem t_X2_tally_59 (l : Launch) (E : En) (c0 s0 : Nat) (k27 : Nat → Nat → Int32 → Int32 → Int32 → Mm → Prop → Unit × Mm × Prop) (hk27 : ∀ (l0 : Nat) (l1 : Nat) (l2 : Int32) (l3 : Int32) (l4 : Int32) (m : Mm) (o : Prop), Mh wU l E mi_X2_tally c0 s0 27 [(0, .ref l0), (1, .ref l1), (2, .int l2), (3, .int l3), (4, .int l4)] [] m o (k27 l0 l1 l2 l3 l4 m o)) (l0 : Nat) (l1 : Nat) (l2 : Int32) (l3 : Int32) (l4 : Int32) (l5 : Nat) (y0 : Int32) (m : Mm) (o : Prop) : Mh wU l E mi_X2_tally c0 s0 59 [(0, .ref l0), (1, .ref l1), (2, .int l2), (3, .int l3), (4, .int l4), (5, .ref l5)] [.int y0] m o (f_X2_tally_59 k27 l0 l1 l2 l3 l4 l5 y0 m o) := by
  refine Mh_aload 5 rfl dX2_tally_59 ?_
  refine Mh_gI fd_1_0 fl_RX2_30 dX2_tally_61 ?_
  refine Mh_iload_n 2 rfl dX2_tally_64 ?_
  refine Mh_icmp_ge (tgt := 72) dX2_tally_65 (by decide) rfl (fun _ => ?_) (fun _ => ?_)
  · refine Mh_iconst (v := 1) dX2_tally_72 (by decide) ?_
    exact t_X2_tally_73 l E c0 s0 k27 hk27 _ _ _ _ _ _ _ _ _ _
  · refine Mh_iconst (v := 0) dX2_tally_68 (by decide) ?_
    refine Mh_goto (tgt := 73) dX2_tally_69 (by decide) ?_
    exact t_X2_tally_73 l E c0 s0 k27 hk27 _ _ _ _ _ _ _ _ _ _
def f_X2_tally_27b (k27 : Nat → Nat → Int32 → Int32 → Int32 → Mm → Prop → Unit × Mm × Prop) (l0 : Nat) (l1 : Nat) (l2 : Int32) (l3 : Int32) (l4 : Int32) (m : Mm) (o : Prop) : Unit × Mm × Prop := if (gI m l1 7) ≤ l4 then ((), m, (o ∧ gT m l1 = 6)) else (if l3 ≤ (gI m (gR m (gR m l1 1) (ix l4)) 1) then (f_X2_tally_59 k27 l0 l1 l2 l3 l4 (gR m (gR m l1 1) (ix l4)) (2 : Int32) m ((((o ∧ gT m l1 = 6) ∧ (gT m l1 = 6 ∧ gR m l1 1 ≠ 0)) ∧ (gT m (gR m l1 1) = 25 ∧ vp_in l4 (gN m (gR m l1 1)) ∧ gR m (gR m l1 1) (ix l4) ≠ 0)) ∧ gT m (gR m (gR m l1 1) (ix l4)) = 2)) else (f_X2_tally_59 k27 l0 l1 l2 l3 l4 (gR m (gR m l1 1) (ix l4)) (0 : Int32) m ((((o ∧ gT m l1 = 6) ∧ (gT m l1 = 6 ∧ gR m l1 1 ≠ 0)) ∧ (gT m (gR m l1 1) = 25 ∧ vp_in l4 (gN m (gR m l1 1)) ∧ gR m (gR m l1 1) (ix l4) ≠ 0)) ∧ gT m (gR m (gR m l1 1) (ix l4)) = 2)))
set_option maxRecDepth 10000 in
theorem t_X2_tally_27b (l : Launch) (E : En) (c0 s0 : Nat) (k27 : Nat → Nat → Int32 → Int32 → Int32 → Mm → Prop → Unit × Mm × Prop) (hk27 : ∀ (l0 : Nat) (l1 : Nat) (l2 : Int32) (l3 : Int32) (l4 : Int32) (m : Mm) (o : Prop), Mh wU l E mi_X2_tally c0 s0 27 [(0, .ref l0), (1, .ref l1), (2, .int l2), (3, .int l3), (4, .int l4)] [] m o (k27 l0 l1 l2 l3 l4 m o)) (l0 : Nat) (l1 : Nat) (l2 : Int32) (l3 : Int32) (l4 : Int32) (m : Mm) (o : Prop) : Mh wU l E mi_X2_tally c0 s0 27 [(0, .ref l0), (1, .ref l1), (2, .int l2), (3, .int l3), (4, .int l4)] [] m o (f_X2_tally_27b k27 l0 l1 l2 l3 l4 m o) := by
  refine Mh_iload 4 rfl dX2_tally_27 ?_
  refine Mh_aload_n 1 rfl dX2_tally_29 ?_
  refine Mh_gI fd_5_7 fl_RX2_15 dX2_tally_30 ?_
  refine Mh_icmp_ge (tgt := 115) dX2_tally_33 (by decide) rfl (fun _ => ?_) (fun _ => ?_)
  · exact Mh_ret dX2_tally_115 rfl (fun _ => trivial) rfl
  · refine Mh_aload_n 1 rfl dX2_tally_36 ?_
    refine Mh_gR fd_5_1 fl_RX2_21 dX2_tally_37 ?_
    refine Mh_iload 4 rfl dX2_tally_40 ?_
    refine Mh_aal 25 (.inr rfl) dX2_tally_42 ?_
    refine Mh_astore (lv' := [(5, .ref (gR m (gR m l1 1) (ix l4))), (0, .ref l0), (1, .ref l1), (2, .int l2), (3, .int l3), (4, .int l4)]) dX2_tally_43 (Nat.le_of_ble_eq_true rfl) rfl ?_
    refine Mh_aload 0 rfl dX2_tally_45 ?_
    refine Mh_gI fd_1_1 fl_RX2_25 dX2_tally_47 ?_
    refine Mh_iload_n 4 rfl dX2_tally_50 ?_
    refine Mh_icmp_ge (tgt := 58) dX2_tally_51 (by decide) rfl (fun _ => ?_) (fun _ => ?_)
    · refine Mh_iconst (v := 2) dX2_tally_58 (by decide) ?_
      refine Mh_sub (lv' := [(0, .ref l0), (1, .ref l1), (2, .int l2), (3, .int l3), (4, .int l4), (5, .ref (gR m (gR m l1 1) (ix l4)))]) [1, 2, 3, 4, 5, 0] rfl ?_
      exact t_X2_tally_59 l E c0 s0 k27 hk27 _ _ _ _ _ _ _ _ _
    · refine Mh_iconst (v := 0) dX2_tally_54 (by decide) ?_
      refine Mh_goto (tgt := 59) dX2_tally_55 (by decide) ?_
      refine Mh_sub (lv' := [(0, .ref l0), (1, .ref l1), (2, .int l2), (3, .int l3), (4, .int l4), (5, .ref (gR m (gR m l1 1) (ix l4)))]) [1, 2, 3, 4, 5, 0] rfl ?_
      exact t_X2_tally_59 l E c0 s0 k27 hk27 _ _ _ _ _ _ _ _ _
def f_X2_tally_27 : Nat → Nat → Nat → Int32 → Int32 → Int32 → Mm → Prop → Unit × Mm × Prop
  | 0, _, _, _, _, _, m, _ => ((), m, False)
  | n + 1, l0, l1, l2, l3, l4, m, o => f_X2_tally_27b (f_X2_tally_27 n) l0 l1 l2 l3 l4 m o
theorem t_X2_tally_27 (l : Launch) (E : En) (c0 s0 : Nat) : ∀ (n : Nat) (l0 : Nat) (l1 : Nat) (l2 : Int32) (l3 : Int32) (l4 : Int32) (m : Mm) (o : Prop), Mh wU l E mi_X2_tally c0 s0 27 [(0, .ref l0), (1, .ref l1), (2, .int l2), (3, .int l3), (4, .int l4)] [] m o (f_X2_tally_27 n l0 l1 l2 l3 l4 m o)
  | 0, _, _, _, _, _, _, _ => Mh_out rfl
  | n + 1, l0, l1, l2, l3, l4, m, o => t_X2_tally_27b l E c0 s0 (f_X2_tally_27 n) (t_X2_tally_27 l E c0 s0 n) l0 l1 l2 l3 l4 m o
def f_X2_tally_3b (k3 : Nat → Nat → Int32 → Int32 → Int32 → Mm → Prop → Unit × Mm × Prop) (l0 : Nat) (l1 : Nat) (l2 : Int32) (l3 : Int32) (l4 : Int32) (m : Mm) (o : Prop) : Unit × Mm × Prop := if (20 : Int32) ≤ l4 then (f_X2_tally_27 1000 l0 l1 l2 l3 (0 : Int32) m o) else (f_X2_tally_18 k3 l0 l1 l2 l3 l4 (sI m (gR m l0 0) (ix l4) (0 : Int32)) ((o ∧ (gT m l0 = 3 ∧ gR m l0 0 ≠ 0)) ∧ (gT m (gR m l0 0) = 20 ∧ vp_in l4 (gN m (gR m l0 0)))))
set_option maxRecDepth 10000 in
theorem t_X2_tally_3b (l : Launch) (E : En) (c0 s0 : Nat) (k3 : Nat → Nat → Int32 → Int32 → Int32 → Mm → Prop → Unit × Mm × Prop) (hk3 : ∀ (l0 : Nat) (l1 : Nat) (l2 : Int32) (l3 : Int32) (l4 : Int32) (m : Mm) (o : Prop), Mh wU l E mi_X2_tally c0 s0 3 [(0, .ref l0), (1, .ref l1), (2, .int l2), (3, .int l3), (4, .int l4)] [] m o (k3 l0 l1 l2 l3 l4 m o)) (l0 : Nat) (l1 : Nat) (l2 : Int32) (l3 : Int32) (l4 : Int32) (m : Mm) (o : Prop) : Mh wU l E mi_X2_tally c0 s0 3 [(0, .ref l0), (1, .ref l1), (2, .int l2), (3, .int l3), (4, .int l4)] [] m o (f_X2_tally_3b k3 l0 l1 l2 l3 l4 m o) := by
  refine Mh_iload 4 rfl dX2_tally_3 ?_
  refine Mh_bipush (v := 20) dX2_tally_5 (by decide) ?_
  refine Mh_icmp_ge (tgt := 24) dX2_tally_7 (by decide) rfl (fun _ => ?_) (fun _ => ?_)
  · refine Mh_iconst (v := 0) dX2_tally_24 (by decide) ?_
    refine Mh_istore (lv' := [(4, .int (0 : Int32)), (0, .ref l0), (1, .ref l1), (2, .int l2), (3, .int l3)]) dX2_tally_25 (Nat.le_of_ble_eq_true rfl) rfl ?_
    refine Mh_sub (lv' := [(0, .ref l0), (1, .ref l1), (2, .int l2), (3, .int l3), (4, .int (0 : Int32))]) [1, 2, 3, 4, 0] rfl ?_
    exact t_X2_tally_27 l E c0 s0 _ _ _ _ _ _ _ _
  · refine Mh_aload_n 0 rfl dX2_tally_10 ?_
    refine Mh_gR fd_2_0 fl_RX2_11 dX2_tally_11 ?_
    refine Mh_iload 4 rfl dX2_tally_14 ?_
    refine Mh_iconst (v := 0) dX2_tally_16 (by decide) ?_
    refine Mh_ias dX2_tally_17 ?_
    exact t_X2_tally_18 l E c0 s0 k3 hk3 _ _ _ _ _ _ _
def f_X2_tally_3 : Nat → Nat → Nat → Int32 → Int32 → Int32 → Mm → Prop → Unit × Mm × Prop
  | 0, _, _, _, _, _, m, _ => ((), m, False)
  | n + 1, l0, l1, l2, l3, l4, m, o => f_X2_tally_3b (f_X2_tally_3 n) l0 l1 l2 l3 l4 m o
theorem t_X2_tally_3 (l : Launch) (E : En) (c0 s0 : Nat) : ∀ (n : Nat) (l0 : Nat) (l1 : Nat) (l2 : Int32) (l3 : Int32) (l4 : Int32) (m : Mm) (o : Prop), Mh wU l E mi_X2_tally c0 s0 3 [(0, .ref l0), (1, .ref l1), (2, .int l2), (3, .int l3), (4, .int l4)] [] m o (f_X2_tally_3 n l0 l1 l2 l3 l4 m o)
  | 0, _, _, _, _, _, _, _ => Mh_out rfl
  | n + 1, l0, l1, l2, l3, l4, m, o => t_X2_tally_3b l E c0 s0 (f_X2_tally_3 n) (t_X2_tally_3 l E c0 s0 n) l0 l1 l2 l3 l4 m o
def f_X2_tally_0 (l0 : Nat) (l1 : Nat) (l2 : Int32) (l3 : Int32) (m : Mm) (o : Prop) : Unit × Mm × Prop := f_X2_tally_3 1000 l0 l1 l2 l3 (0 : Int32) m o
set_option maxRecDepth 10000 in
theorem t_X2_tally_0 (l : Launch) (E : En) (c0 s0 : Nat) (l0 : Nat) (l1 : Nat) (l2 : Int32) (l3 : Int32) (m : Mm) (o : Prop) : Mh wU l E mi_X2_tally c0 s0 0 [(0, .ref l0), (1, .ref l1), (2, .int l2), (3, .int l3)] [] m o (f_X2_tally_0 l0 l1 l2 l3 m o) := by
  refine Mh_iconst (v := 0) dX2_tally_0 (by decide) ?_
  refine Mh_istore (lv' := [(4, .int (0 : Int32)), (0, .ref l0), (1, .ref l1), (2, .int l2), (3, .int l3)]) dX2_tally_1 (Nat.le_of_ble_eq_true rfl) rfl ?_
  refine Mh_sub (lv' := [(0, .ref l0), (1, .ref l1), (2, .int l2), (3, .int l3), (4, .int (0 : Int32))]) [1, 2, 3, 4, 0] rfl ?_
  exact t_X2_tally_3 l E c0 s0 _ _ _ _ _ _ _ _
def F_X2_tally (a0 : Nat) (a1 : Nat) (a2 : Int32) (a3 : Int32) (m : Mm) (o : Prop) : Unit × Mm × Prop := f_X2_tally_0 a0 a1 a2 a3 m o
theorem T_X2_tally (l : Launch) (E : En) (a0 : Nat) (a1 : Nat) (a2 : Int32) (a3 : Int32) (m : Mm) (o : Prop) : Mt wU l E yX2_tally mi_X2_tally [.ref a0, .ref a1, .int a2, .int a3] m o (F_X2_tally a0 a1 a2 a3 m o) :=
  Mt_U (by decide) rfl (fun h => by cases h) rfl (Nat.le_of_ble_eq_true rfl) rfl (t_X2_tally_0 l E _ _ _ _ _ _ _ _)
