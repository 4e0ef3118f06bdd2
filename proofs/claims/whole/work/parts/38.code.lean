def f_X12_size_10 (y0 : Int32) (m : Mm) (o : Prop) : Int32 × Mm × Prop := (y0, m, o)
set_option maxRecDepth 10000 in
theorem t_X12_size_10 (l : Launch) (E : En) (c0 s0 : Nat) (y0 : Int32) (m : Mm) (o : Prop) : Mh wI l E mi_X12_size c0 s0 10 [] [.int y0] m o (f_X12_size_10 y0 m o) := by
  exact Mh_ret dX12_size_10 rfl (fun _ => rfl) rfl
def f_X12_size_0 (l0 : Int32) (m : Mm) (o : Prop) : Int32 × Mm × Prop := if 0 ≤ l0 then (f_X12_size_10 l0 m o) else (f_X12_size_10 (-l0) m o)
set_option maxRecDepth 10000 in
theorem t_X12_size_0 (l : Launch) (E : En) (c0 s0 : Nat) (l0 : Int32) (m : Mm) (o : Prop) : Mh wI l E mi_X12_size c0 s0 0 [(0, .int l0)] [] m o (f_X12_size_0 l0 m o) := by
  refine Mh_iload_n 0 rfl dX12_size_0 ?_
  refine Mh_if_ge (tgt := 9) dX12_size_1 (by decide) rfl (fun _ => ?_) (fun _ => ?_)
  · refine Mh_iload_n 0 rfl dX12_size_9 ?_
    refine Mh_sub (lv' := []) [] rfl ?_
    exact t_X12_size_10 l E c0 s0 _ _ _
  · refine Mh_iload_n 0 rfl dX12_size_4 ?_
    refine Mh_ineg dX12_size_5 ?_
    refine Mh_goto (tgt := 10) dX12_size_6 (by decide) ?_
    refine Mh_sub (lv' := []) [] rfl ?_
    exact t_X12_size_10 l E c0 s0 _ _ _
def F_X12_size (a0 : Int32) (m : Mm) (o : Prop) : Int32 × Mm × Prop := f_X12_size_0 a0 m o
theorem T_X12_size (l : Launch) (E : En) (a0 : Int32) (m : Mm) (o : Prop) : Mt wI l E yX12_size mi_X12_size [.int a0] m o (F_X12_size a0 m o) :=
  Mt_I (by decide) rfl rfl rfl (Nat.le_of_ble_eq_true rfl) rfl (.inl rfl) (t_X12_size_0 l E _ _ _ _ _)
def f_X12_wayOf_24 (y1 : Int32) (y0 : Int32) (m : Mm) (o : Prop) : Int32 × Mm × Prop := (y0 + y1, m, o)
set_option maxRecDepth 10000 in
theorem t_X12_wayOf_24 (l : Launch) (E : En) (c0 s0 : Nat) (y1 : Int32) (y0 : Int32) (m : Mm) (o : Prop) : Mh wI l E mi_X12_wayOf c0 s0 24 [] [.int y1, .int y0] m o (f_X12_wayOf_24 y1 y0 m o) := by
  refine Mh_iadd dX12_wayOf_24 ?_
  exact Mh_ret dX12_wayOf_25 rfl (fun _ => rfl) rfl
def f_X12_wayOf_12 (l0 : Int32) (l1 : Int32) (y0 : Int32) (m : Mm) (o : Prop) : Int32 × Mm × Prop := bnd (F_X12_size ((l0 / (10 : Int32)) - (l1 / (10 : Int32))) m o) (fun v1 m1 o1 => f_X12_wayOf_24 v1 y0 m1 o1)
set_option maxRecDepth 10000 in
theorem t_X12_wayOf_12 (l : Launch) (E : En) (c0 s0 : Nat) (l0 : Int32) (l1 : Int32) (y0 : Int32) (m : Mm) (o : Prop) : Mh wI l E mi_X12_wayOf c0 s0 12 [(0, .int l0), (1, .int l1)] [.int y0] m o (f_X12_wayOf_12 l0 l1 y0 m o) := by
  refine Mh_iload_n 0 rfl dX12_wayOf_12 ?_
  refine Mh_bipush (v := 10) dX12_wayOf_13 (by decide) ?_
  refine Mh_idiv dX12_wayOf_15 ?_
  refine Mh_ok (fun _ => by decide) ?_
  refine Mh_iload_n 1 rfl dX12_wayOf_16 ?_
  refine Mh_bipush (v := 10) dX12_wayOf_17 (by decide) ?_
  refine Mh_idiv dX12_wayOf_19 ?_
  refine Mh_ok (fun _ => by decide) ?_
  refine Mh_isub dX12_wayOf_20 ?_
  refine Mh_csI (N := mi_X12_size) (as := [.int ((l0 / (10 : Int32)) - (l1 / (10 : Int32)))]) (st := [.int y0]) cg_yX12_size (.inl ml_RX12_345) sv_yX12_size pd_yX12_size rfl (by decide) (Nat.le_of_ble_eq_true rfl) rfl dX12_wayOf_21 (T_X12_size l E _ _ _) rfl ?_
  refine Mh_sub (lv' := []) [] rfl ?_
  exact t_X12_wayOf_24 l E c0 s0 _ _ _ _
def f_X12_wayOf_0 (l0 : Int32) (l1 : Int32) (m : Mm) (o : Prop) : Int32 × Mm × Prop := bnd (F_X12_size ((irm l0 (10 : Int32)) - (irm l1 (10 : Int32))) m o) (fun v1 m1 o1 => f_X12_wayOf_12 l0 l1 v1 m1 o1)
set_option maxRecDepth 10000 in
theorem t_X12_wayOf_0 (l : Launch) (E : En) (c0 s0 : Nat) (l0 : Int32) (l1 : Int32) (m : Mm) (o : Prop) : Mh wI l E mi_X12_wayOf c0 s0 0 [(0, .int l0), (1, .int l1)] [] m o (f_X12_wayOf_0 l0 l1 m o) := by
  refine Mh_iload_n 0 rfl dX12_wayOf_0 ?_
  refine Mh_bipush (v := 10) dX12_wayOf_1 (by decide) ?_
  refine Mh_irem dX12_wayOf_3 ?_
  refine Mh_ok (fun _ => by decide) ?_
  refine Mh_iload_n 1 rfl dX12_wayOf_4 ?_
  refine Mh_bipush (v := 10) dX12_wayOf_5 (by decide) ?_
  refine Mh_irem dX12_wayOf_7 ?_
  refine Mh_ok (fun _ => by decide) ?_
  refine Mh_isub dX12_wayOf_8 ?_
  refine Mh_csI (N := mi_X12_size) (as := [.int ((irm l0 (10 : Int32)) - (irm l1 (10 : Int32)))]) (st := []) cg_yX12_size (.inl ml_RX12_345) sv_yX12_size pd_yX12_size rfl (by decide) (Nat.le_of_ble_eq_true rfl) rfl dX12_wayOf_9 (T_X12_size l E _ _ _) rfl ?_
  exact t_X12_wayOf_12 l E c0 s0 _ _ _ _ _
def F_X12_wayOf (a0 : Int32) (a1 : Int32) (m : Mm) (o : Prop) : Int32 × Mm × Prop := f_X12_wayOf_0 a0 a1 m o
theorem T_X12_wayOf (l : Launch) (E : En) (a0 : Int32) (a1 : Int32) (m : Mm) (o : Prop) : Mt wI l E yX12_wayOf mi_X12_wayOf [.int a0, .int a1] m o (F_X12_wayOf a0 a1 m o) :=
  Mt_I (by decide) rfl rfl rfl (Nat.le_of_ble_eq_true rfl) rfl (.inl rfl) (t_X12_wayOf_0 l E _ _ _ _ _ _)
def f_X12_ofCow_79 (y0 : Int32) (m : Mm) (o : Prop) : Int32 × Mm × Prop := (y0, m, o)
set_option maxRecDepth 10000 in
theorem t_X12_ofCow_79 (l : Launch) (E : En) (c0 s0 : Nat) (y0 : Int32) (m : Mm) (o : Prop) : Mh wI l E mi_X12_ofCow c0 s0 79 [] [.int y0] m o (f_X12_ofCow_79 y0 m o) := by
  exact Mh_ret dX12_ofCow_79 rfl (fun _ => rfl) rfl
def f_X12_ofCow_0 (l0 : Nat) (l1 : Int32) (m : Mm) (o : Prop) : Int32 × Mm × Prop := if l1 = 98 then (gI m (gR m l0 16) (ix (gI m l0 46)), m, (((o ∧ (gT m l0 = 12 ∧ gR m l0 16 ≠ 0)) ∧ gT m l0 = 12) ∧ (gT m (gR m l0 16) = 20 ∧ vp_in (gI m l0 46) (gN m (gR m l0 16))))) else if l1 = 100 then (bnd (F_X12_wayOf (gI m (gR m l0 15) (ix (gI m l0 46))) (gI m (gR m l0 8) (ix (gI m l0 45))) m (((((o ∧ (gT m l0 = 12 ∧ gR m l0 15 ≠ 0)) ∧ gT m l0 = 12) ∧ (gT m (gR m l0 15) = 20 ∧ vp_in (gI m l0 46) (gN m (gR m l0 15)))) ∧ (gT m l0 = 12 ∧ gR m l0 8 ≠ 0)) ∧ (gT m (gR m l0 8) = 20 ∧ vp_in (gI m l0 45) (gN m (gR m l0 8))))) (fun v1 m1 o1 => f_X12_ofCow_79 v1 m1 o1)) else if l1 = 116 then (gI m (gR m l0 19) (ix (((5 : Int32) * (gI m l0 46)) + (gI m (gR m l0 9) (ix (gI m l0 45))))), m, (((((o ∧ (gT m l0 = 12 ∧ gR m l0 19 ≠ 0)) ∧ gT m l0 = 12) ∧ (gT m l0 = 12 ∧ gR m l0 9 ≠ 0)) ∧ (gT m (gR m l0 9) = 20 ∧ vp_in (gI m l0 45) (gN m (gR m l0 9)))) ∧ (gT m (gR m l0 19) = 20 ∧ vp_in (((5 : Int32) * (gI m l0 46)) + (gI m (gR m l0 9) (ix (gI m l0 45)))) (gN m (gR m l0 19))))) else (gI m (gR m l0 17) (ix (gI m l0 46)), m, (((o ∧ (gT m l0 = 12 ∧ gR m l0 17 ≠ 0)) ∧ gT m l0 = 12) ∧ (gT m (gR m l0 17) = 20 ∧ vp_in (gI m l0 46) (gN m (gR m l0 17)))))
set_option maxRecDepth 10000 in
theorem t_X12_ofCow_0 (l : Launch) (E : En) (c0 s0 : Nat) (l0 : Nat) (l1 : Int32) (m : Mm) (o : Prop) : Mh wI l E mi_X12_ofCow c0 s0 0 [(0, .ref l0), (1, .int l1)] [] m o (f_X12_ofCow_0 l0 l1 m o) := by
  refine Mh_iload_n 1 rfl dX12_ofCow_0 ?_
  refine Mh_ite (C := l1 = 98) rfl (fun hs98 => ?_) (fun hs98 => ?_)
  · refine Mh_lsw (off := 79) (tgt := 80) dX12_ofCow_1 (by decide) (by rw [hs98]; decide) (by decide) ?_
    refine Mh_aload_n 0 rfl dX12_ofCow_80 ?_
    refine Mh_gR fd_11_16 fl_RX12_46 dX12_ofCow_81 ?_
    refine Mh_aload_n 0 rfl dX12_ofCow_84 ?_
    refine Mh_gI fd_11_46 fl_RX12_349 dX12_ofCow_85 ?_
    refine Mh_ial dX12_ofCow_88 ?_
    exact Mh_ret dX12_ofCow_89 rfl (fun _ => rfl) rfl
  refine Mh_ite (C := l1 = 100) rfl (fun hs100 => ?_) (fun hs100 => ?_)
  · refine Mh_lsw (off := 57) (tgt := 58) dX12_ofCow_1 (by decide) (by rw [hs100]; decide) (by decide) ?_
    refine Mh_aload_n 0 rfl dX12_ofCow_58 ?_
    refine Mh_gR fd_11_15 fl_RX12_43 dX12_ofCow_59 ?_
    refine Mh_aload_n 0 rfl dX12_ofCow_62 ?_
    refine Mh_gI fd_11_46 fl_RX12_349 dX12_ofCow_63 ?_
    refine Mh_ial dX12_ofCow_66 ?_
    refine Mh_aload_n 0 rfl dX12_ofCow_67 ?_
    refine Mh_gR fd_11_8 fl_RX12_20 dX12_ofCow_68 ?_
    refine Mh_aload_n 0 rfl dX12_ofCow_71 ?_
    refine Mh_gI fd_11_45 fl_RX12_352 dX12_ofCow_72 ?_
    refine Mh_ok (fun h => h.1.1.2) ?_
    refine Mh_ial dX12_ofCow_75 ?_
    refine Mh_csI (N := mi_X12_wayOf) (as := [.int (gI m (gR m l0 15) (ix (gI m l0 46))), .int (gI m (gR m l0 8) (ix (gI m l0 45)))]) (st := []) cg_yX12_wayOf (.inl ml_RX12_355) sv_yX12_wayOf pd_yX12_wayOf rfl (by decide) (Nat.le_of_ble_eq_true rfl) rfl dX12_ofCow_76 (T_X12_wayOf l E _ _ _ _) rfl ?_
    refine Mh_sub (lv' := []) [] rfl ?_
    exact t_X12_ofCow_79 l E c0 s0 _ _ _
  refine Mh_ite (C := l1 = 116) rfl (fun hs116 => ?_) (fun hs116 => ?_)
  · refine Mh_lsw (off := 35) (tgt := 36) dX12_ofCow_1 (by decide) (by rw [hs116]; decide) (by decide) ?_
    refine Mh_aload_n 0 rfl dX12_ofCow_36 ?_
    refine Mh_gR fd_11_19 fl_RX12_55 dX12_ofCow_37 ?_
    refine Mh_iconst (v := 5) dX12_ofCow_40 (by decide) ?_
    refine Mh_aload_n 0 rfl dX12_ofCow_41 ?_
    refine Mh_gI fd_11_46 fl_RX12_349 dX12_ofCow_42 ?_
    refine Mh_imul dX12_ofCow_45 ?_
    refine Mh_aload_n 0 rfl dX12_ofCow_46 ?_
    refine Mh_gR fd_11_9 fl_RX12_24 dX12_ofCow_47 ?_
    refine Mh_aload_n 0 rfl dX12_ofCow_50 ?_
    refine Mh_gI fd_11_45 fl_RX12_352 dX12_ofCow_51 ?_
    refine Mh_ok (fun h => h.1.2) ?_
    refine Mh_ial dX12_ofCow_54 ?_
    refine Mh_iadd dX12_ofCow_55 ?_
    refine Mh_ial dX12_ofCow_56 ?_
    exact Mh_ret dX12_ofCow_57 rfl (fun _ => rfl) rfl
  refine Mh_lsw (off := 89) (tgt := 90) dX12_ofCow_1 (by decide) (by rw [lv_osw hs98 (by decide)]; rw [lv_osw hs100 (by decide)]; rw [lv_osw hs116 (by decide)]; rfl) (by decide) ?_
  refine Mh_aload_n 0 rfl dX12_ofCow_90 ?_
  refine Mh_gR fd_11_17 fl_RX12_49 dX12_ofCow_91 ?_
  refine Mh_aload_n 0 rfl dX12_ofCow_94 ?_
  refine Mh_gI fd_11_46 fl_RX12_349 dX12_ofCow_95 ?_
  refine Mh_ial dX12_ofCow_98 ?_
  exact Mh_ret dX12_ofCow_99 rfl (fun _ => rfl) rfl
def F_X12_ofCow (a0 : Nat) (a1 : Int32) (m : Mm) (o : Prop) : Int32 × Mm × Prop := f_X12_ofCow_0 a0 a1 m o
theorem T_X12_ofCow (l : Launch) (E : En) (a0 : Nat) (a1 : Int32) (m : Mm) (o : Prop) : Mt wI l E yX12_ofCow mi_X12_ofCow [.ref a0, .int a1] m o (F_X12_ofCow a0 a1 m o) :=
  Mt_I (by decide) rfl rfl rfl (Nat.le_of_ble_eq_true rfl) rfl (.inl rfl) (t_X12_ofCow_0 l E _ _ _ _ _ _)
def f_X12_valueOf_161 (y0 : Int32) (m : Mm) (o : Prop) : Int32 × Mm × Prop := (y0, m, o)
set_option maxRecDepth 10000 in
theorem t_X12_valueOf_161 (l : Launch) (E : En) (c0 s0 : Nat) (y0 : Int32) (m : Mm) (o : Prop) : Mh wI l E mi_X12_valueOf c0 s0 161 [] [.int y0] m o (f_X12_valueOf_161 y0 m o) := by
  exact Mh_ret dX12_valueOf_161 rfl (fun _ => rfl) rfl
def f_X12_valueOf_160 (m : Mm) (o : Prop) : Int32 × Mm × Prop := f_X12_valueOf_161 (0 : Int32) m o
set_option maxRecDepth 10000 in
theorem t_X12_valueOf_160 (l : Launch) (E : En) (c0 s0 : Nat) (m : Mm) (o : Prop) : Mh wI l E mi_X12_valueOf c0 s0 160 [] [] m o (f_X12_valueOf_160  m o) := by
  refine Mh_iconst (v := 0) dX12_valueOf_160 (by decide) ?_
  exact t_X12_valueOf_161 l E c0 s0 _ _ _
def f_X12_valueOf_179 (y0 : Int32) (m : Mm) (o : Prop) : Int32 × Mm × Prop := (y0, m, o)
set_option maxRecDepth 10000 in
theorem t_X12_valueOf_179 (l : Launch) (E : En) (c0 s0 : Nat) (y0 : Int32) (m : Mm) (o : Prop) : Mh wI l E mi_X12_valueOf c0 s0 179 [] [.int y0] m o (f_X12_valueOf_179 y0 m o) := by
  exact Mh_ret dX12_valueOf_179 rfl (fun _ => rfl) rfl
def f_X12_valueOf_0 (l0 : Nat) (l1 : Int32) (m : Mm) (o : Prop) : Int32 × Mm × Prop := if l1 = 104 then (gI m (gR m l0 10) (ix (gI m l0 45)), m, (((o ∧ (gT m l0 = 12 ∧ gR m l0 10 ≠ 0)) ∧ gT m l0 = 12) ∧ (gT m (gR m l0 10) = 20 ∧ vp_in (gI m l0 45) (gN m (gR m l0 10))))) else if l1 = 107 then (gI m (gR m l0 9) (ix (gI m l0 45)), m, (((o ∧ (gT m l0 = 12 ∧ gR m l0 9 ≠ 0)) ∧ gT m l0 = 12) ∧ (gT m (gR m l0 9) = 20 ∧ vp_in (gI m l0 45) (gN m (gR m l0 9))))) else if l1 = 115 then (if (gI m l0 6) = (gI m l0 45) then (if (gI m l0 4) < (gI m l0 7) then (f_X12_valueOf_160  m (o ∧ gT m l0 = 12)) else (f_X12_valueOf_161 (1 : Int32) m (o ∧ gT m l0 = 12))) else (f_X12_valueOf_160  m (o ∧ gT m l0 = 12))) else if l1 = 118 then (gI m (gR m l0 11) (ix (gI m l0 45)), m, (((o ∧ (gT m l0 = 12 ∧ gR m l0 11 ≠ 0)) ∧ gT m l0 = 12) ∧ (gT m (gR m l0 11) = 20 ∧ vp_in (gI m l0 45) (gN m (gR m l0 11))))) else if l1 = 119 then (gI m (gR m l0 12) (ix (gI m l0 45)), m, (((o ∧ (gT m l0 = 12 ∧ gR m l0 12 ≠ 0)) ∧ gT m l0 = 12) ∧ (gT m (gR m l0 12) = 20 ∧ vp_in (gI m l0 45) (gN m (gR m l0 12))))) else if l1 = 120 then (gI m (gR m l0 13) (ix (gI m l0 45)), m, (((o ∧ (gT m l0 = 12 ∧ gR m l0 13 ≠ 0)) ∧ gT m l0 = 12) ∧ (gT m (gR m l0 13) = 20 ∧ vp_in (gI m l0 45) (gN m (gR m l0 13))))) else (if (gI m l0 46) = (-1 : Int32) then (f_X12_valueOf_179 (0 : Int32) m (o ∧ gT m l0 = 12)) else (bnd (F_X12_ofCow l0 l1 m (o ∧ gT m l0 = 12)) (fun v1 m1 o1 => f_X12_valueOf_179 v1 m1 o1)))
set_option maxRecDepth 10000 in
theorem t_X12_valueOf_0 (l : Launch) (E : En) (c0 s0 : Nat) (l0 : Nat) (l1 : Int32) (m : Mm) (o : Prop) : Mh wI l E mi_X12_valueOf c0 s0 0 [(0, .ref l0), (1, .int l1)] [] m o (f_X12_valueOf_0 l0 l1 m o) := by
  refine Mh_iload_n 1 rfl dX12_valueOf_0 ?_
  refine Mh_ite (C := l1 = 104) rfl (fun hs104 => ?_) (fun hs104 => ?_)
  · refine Mh_tsi (off := 83) (tgt := 84) dX12_valueOf_1 (by rw [hs104]; decide) (by rw [hs104]; decide) (by rw [hs104]; decide) (by decide) ?_
    refine Mh_aload_n 0 rfl dX12_valueOf_84 ?_
    refine Mh_gR fd_11_10 fl_RX12_27 dX12_valueOf_85 ?_
    refine Mh_aload_n 0 rfl dX12_valueOf_88 ?_
    refine Mh_gI fd_11_45 fl_RX12_352 dX12_valueOf_89 ?_
    refine Mh_ial dX12_valueOf_92 ?_
    exact Mh_ret dX12_valueOf_93 rfl (fun _ => rfl) rfl
  refine Mh_ite (C := l1 = 107) rfl (fun hs107 => ?_) (fun hs107 => ?_)
  · refine Mh_tsi (off := 123) (tgt := 124) dX12_valueOf_1 (by rw [hs107]; decide) (by rw [hs107]; decide) (by rw [hs107]; decide) (by decide) ?_
    refine Mh_aload_n 0 rfl dX12_valueOf_124 ?_
    refine Mh_gR fd_11_9 fl_RX12_24 dX12_valueOf_125 ?_
    refine Mh_aload_n 0 rfl dX12_valueOf_128 ?_
    refine Mh_gI fd_11_45 fl_RX12_352 dX12_valueOf_129 ?_
    refine Mh_ial dX12_valueOf_132 ?_
    exact Mh_ret dX12_valueOf_133 rfl (fun _ => rfl) rfl
  refine Mh_ite (C := l1 = 115) rfl (fun hs115 => ?_) (fun hs115 => ?_)
  · refine Mh_tsi (off := 133) (tgt := 134) dX12_valueOf_1 (by rw [hs115]; decide) (by rw [hs115]; decide) (by rw [hs115]; decide) (by decide) ?_
    refine Mh_aload_n 0 rfl dX12_valueOf_134 ?_
    refine Mh_gI fd_11_6 fl_RX12_17 dX12_valueOf_135 ?_
    refine Mh_aload_n 0 rfl dX12_valueOf_138 ?_
    refine Mh_gI fd_11_45 fl_RX12_352 dX12_valueOf_139 ?_
    refine Mh_ok (fun h => h.2) ?_
    refine Mh_icmp_ne (tgt := 160) dX12_valueOf_142 (by decide) rfl (fun _ => ?_) (fun _ => ?_)
    · refine Mh_sub (lv' := []) [] rfl ?_
      exact t_X12_valueOf_160 l E c0 s0  _ _
    · refine Mh_aload_n 0 rfl dX12_valueOf_145 ?_
      refine Mh_gI fd_11_4 fl_RX12_359 dX12_valueOf_146 ?_
      refine Mh_ok (fun h => h.2) ?_
      refine Mh_aload_n 0 rfl dX12_valueOf_149 ?_
      refine Mh_gI fd_11_7 fl_RX12_225 dX12_valueOf_150 ?_
      refine Mh_ok (fun h => h.2) ?_
      refine Mh_icmp_lt (tgt := 160) dX12_valueOf_153 (by decide) rfl (fun _ => ?_) (fun _ => ?_)
      · refine Mh_sub (lv' := []) [] rfl ?_
        exact t_X12_valueOf_160 l E c0 s0  _ _
      · refine Mh_iconst (v := 1) dX12_valueOf_156 (by decide) ?_
        refine Mh_goto (tgt := 161) dX12_valueOf_157 (by decide) ?_
        refine Mh_sub (lv' := []) [] rfl ?_
        exact t_X12_valueOf_161 l E c0 s0 _ _ _
  refine Mh_ite (C := l1 = 118) rfl (fun hs118 => ?_) (fun hs118 => ?_)
  · refine Mh_tsi (off := 93) (tgt := 94) dX12_valueOf_1 (by rw [hs118]; decide) (by rw [hs118]; decide) (by rw [hs118]; decide) (by decide) ?_
    refine Mh_aload_n 0 rfl dX12_valueOf_94 ?_
    refine Mh_gR fd_11_11 fl_RX12_30 dX12_valueOf_95 ?_
    refine Mh_aload_n 0 rfl dX12_valueOf_98 ?_
    refine Mh_gI fd_11_45 fl_RX12_352 dX12_valueOf_99 ?_
    refine Mh_ial dX12_valueOf_102 ?_
    exact Mh_ret dX12_valueOf_103 rfl (fun _ => rfl) rfl
  refine Mh_ite (C := l1 = 119) rfl (fun hs119 => ?_) (fun hs119 => ?_)
  · refine Mh_tsi (off := 103) (tgt := 104) dX12_valueOf_1 (by rw [hs119]; decide) (by rw [hs119]; decide) (by rw [hs119]; decide) (by decide) ?_
    refine Mh_aload_n 0 rfl dX12_valueOf_104 ?_
    refine Mh_gR fd_11_12 fl_RX12_33 dX12_valueOf_105 ?_
    refine Mh_aload_n 0 rfl dX12_valueOf_108 ?_
    refine Mh_gI fd_11_45 fl_RX12_352 dX12_valueOf_109 ?_
    refine Mh_ial dX12_valueOf_112 ?_
    exact Mh_ret dX12_valueOf_113 rfl (fun _ => rfl) rfl
  refine Mh_ite (C := l1 = 120) rfl (fun hs120 => ?_) (fun hs120 => ?_)
  · refine Mh_tsi (off := 113) (tgt := 114) dX12_valueOf_1 (by rw [hs120]; decide) (by rw [hs120]; decide) (by rw [hs120]; decide) (by decide) ?_
    refine Mh_aload_n 0 rfl dX12_valueOf_114 ?_
    refine Mh_gR fd_11_13 fl_RX12_36 dX12_valueOf_115 ?_
    refine Mh_aload_n 0 rfl dX12_valueOf_118 ?_
    refine Mh_gI fd_11_45 fl_RX12_352 dX12_valueOf_119 ?_
    refine Mh_ial dX12_valueOf_122 ?_
    exact Mh_ret dX12_valueOf_123 rfl (fun _ => rfl) rfl
  refine Mh_tsd (tgt := 162) [104, 107, 115, 118, 119, 120] dX12_valueOf_1 (by decide) (by decide) (List.forall_mem_cons.mpr ⟨lv_neT hs104 (by decide), List.forall_mem_cons.mpr ⟨lv_neT hs107 (by decide), List.forall_mem_cons.mpr ⟨lv_neT hs115 (by decide), List.forall_mem_cons.mpr ⟨lv_neT hs118 (by decide), List.forall_mem_cons.mpr ⟨lv_neT hs119 (by decide), List.forall_mem_cons.mpr ⟨lv_neT hs120 (by decide), fun _ h => absurd h List.not_mem_nil⟩⟩⟩⟩⟩⟩) (by decide) ?_
  refine Mh_aload_n 0 rfl dX12_valueOf_162 ?_
  refine Mh_gI fd_11_46 fl_RX12_349 dX12_valueOf_163 ?_
  refine Mh_iconst (v := (-1)) dX12_valueOf_166 (by decide) ?_
  refine Mh_icmp_ne (tgt := 174) dX12_valueOf_167 (by decide) rfl (fun _ => ?_) (fun _ => ?_)
  · refine Mh_aload_n 0 rfl dX12_valueOf_174 ?_
    refine Mh_iload_n 1 rfl dX12_valueOf_175 ?_
    refine Mh_cvI (N := mi_X12_ofCow) (q := l0) (ci := 11) (as := [.int l1]) (st := []) (fun h => ⟨h, (fun h => h.2) h⟩) cg_yX12_ofCow (by decide) rfl rfl ml_RX12_362 iv_yX12_ofCow pd_yX12_ofCow rfl (by decide) (Nat.le_of_ble_eq_true rfl) rfl dX12_valueOf_176 (T_X12_ofCow l E _ _ _ _) rfl ?_
    refine Mh_sub (lv' := []) [] rfl ?_
    exact t_X12_valueOf_179 l E c0 s0 _ _ _
  · refine Mh_iconst (v := 0) dX12_valueOf_170 (by decide) ?_
    refine Mh_goto (tgt := 179) dX12_valueOf_171 (by decide) ?_
    refine Mh_sub (lv' := []) [] rfl ?_
    exact t_X12_valueOf_179 l E c0 s0 _ _ _
def F_X12_valueOf (a0 : Nat) (a1 : Int32) (m : Mm) (o : Prop) : Int32 × Mm × Prop := f_X12_valueOf_0 a0 a1 m o
theorem T_X12_valueOf (l : Launch) (E : En) (a0 : Nat) (a1 : Int32) (m : Mm) (o : Prop) : Mt wI l E yX12_valueOf mi_X12_valueOf [.ref a0, .int a1] m o (F_X12_valueOf a0 a1 m o) :=
  Mt_I (by decide) rfl rfl rfl (Nat.le_of_ble_eq_true rfl) rfl (.inl rfl) (t_X12_valueOf_0 l E _ _ _ _ _ _)
def f_X12_works_121 (k5 : Nat → Int32 → Int32 → Int32 → Mm → Prop → Unit × Mm × Prop) (l0 : Nat) (l2 : Int32) (l3 : Int32) (l4 : Int32) (m : Mm) (o : Prop) : Unit × Mm × Prop := k5 l0 l2 l3 (l4 + 1) m o
set_option maxRecDepth 10000 in
theorem t_X12_works_121 (l : Launch) (E : En) (c0 s0 : Nat) (k5 : Nat → Int32 → Int32 → Int32 → Mm → Prop → Unit × Mm × Prop) (hk5 : ∀ (l0 : Nat) (l2 : Int32) (l3 : Int32) (l4 : Int32) (m : Mm) (o : Prop), Mh wU l E mi_X12_works c0 s0 5 [(0, .ref l0), (2, .int l2), (3, .int l3), (4, .int l4)] [] m o (k5 l0 l2 l3 l4 m o)) (l0 : Nat) (l2 : Int32) (l3 : Int32) (l4 : Int32) (m : Mm) (o : Prop) : Mh wU l E mi_X12_works c0 s0 121 [(0, .ref l0), (2, .int l2), (3, .int l3), (4, .int l4)] [] m o (f_X12_works_121 k5 l0 l2 l3 l4 m o) := by
  refine Mh_iinc (v := l4 + 1) (lv' := [(4, .int (l4 + 1)), (0, .ref l0), (2, .int l2), (3, .int l3)]) 3 dX12_works_121 rfl rfl (Nat.le_of_ble_eq_true rfl) rfl ?_
  refine Mh_goto (tgt := 5) dX12_works_124 (by decide) ?_
  refine Mh_sub (lv' := [(0, .ref l0), (2, .int l2), (3, .int l3), (4, .int (l4 + 1))]) [1, 2, 3, 0] rfl ?_
  exact hk5 _ _ _ _ _ _
def f_X12_works_39 (k5 : Nat → Int32 → Int32 → Int32 → Mm → Prop → Unit × Mm × Prop) (l0 : Nat) (l2 : Int32) (l3 : Int32) (l4 : Int32) (m : Mm) (o : Prop) : Unit × Mm × Prop := f_X12_works_121 k5 l0 l2 l3 l4 m o
set_option maxRecDepth 10000 in
theorem t_X12_works_39 (l : Launch) (E : En) (c0 s0 : Nat) (k5 : Nat → Int32 → Int32 → Int32 → Mm → Prop → Unit × Mm × Prop) (hk5 : ∀ (l0 : Nat) (l2 : Int32) (l3 : Int32) (l4 : Int32) (m : Mm) (o : Prop), Mh wU l E mi_X12_works c0 s0 5 [(0, .ref l0), (2, .int l2), (3, .int l3), (4, .int l4)] [] m o (k5 l0 l2 l3 l4 m o)) (l0 : Nat) (l2 : Int32) (l3 : Int32) (l4 : Int32) (m : Mm) (o : Prop) : Mh wU l E mi_X12_works c0 s0 39 [(0, .ref l0), (2, .int l2), (3, .int l3), (4, .int l4)] [] m o (f_X12_works_39 k5 l0 l2 l3 l4 m o) := by
  refine Mh_goto (tgt := 121) dX12_works_39 (by decide) ?_
  exact t_X12_works_121 l E c0 s0 k5 hk5 _ _ _ _ _ _
def f_X12_works_71 (k5 : Nat → Int32 → Int32 → Int32 → Mm → Prop → Unit × Mm × Prop) (l0 : Nat) (l2 : Int32) (l3 : Int32) (l4 : Int32) (m : Mm) (o : Prop) : Unit × Mm × Prop := f_X12_works_121 k5 l0 l2 l3 l4 m o
set_option maxRecDepth 10000 in
theorem t_X12_works_71 (l : Launch) (E : En) (c0 s0 : Nat) (k5 : Nat → Int32 → Int32 → Int32 → Mm → Prop → Unit × Mm × Prop) (hk5 : ∀ (l0 : Nat) (l2 : Int32) (l3 : Int32) (l4 : Int32) (m : Mm) (o : Prop), Mh wU l E mi_X12_works c0 s0 5 [(0, .ref l0), (2, .int l2), (3, .int l3), (4, .int l4)] [] m o (k5 l0 l2 l3 l4 m o)) (l0 : Nat) (l2 : Int32) (l3 : Int32) (l4 : Int32) (m : Mm) (o : Prop) : Mh wU l E mi_X12_works c0 s0 71 [(0, .ref l0), (2, .int l2), (3, .int l3), (4, .int l4)] [] m o (f_X12_works_71 k5 l0 l2 l3 l4 m o) := by
  refine Mh_goto (tgt := 121) dX12_works_71 (by decide) ?_
  exact t_X12_works_121 l E c0 s0 k5 hk5 _ _ _ _ _ _
def f_X12_works_118 (k5 : Nat → Int32 → Int32 → Int32 → Mm → Prop → Unit × Mm × Prop) (l0 : Nat) (l2 : Int32) (l3 : Int32) (l4 : Int32) (m : Mm) (o : Prop) : Unit × Mm × Prop := f_X12_works_121 k5 l0 l2 (l3 + 1) l4 m o
set_option maxRecDepth 10000 in
theorem t_X12_works_118 (l : Launch) (E : En) (c0 s0 : Nat) (k5 : Nat → Int32 → Int32 → Int32 → Mm → Prop → Unit × Mm × Prop) (hk5 : ∀ (l0 : Nat) (l2 : Int32) (l3 : Int32) (l4 : Int32) (m : Mm) (o : Prop), Mh wU l E mi_X12_works c0 s0 5 [(0, .ref l0), (2, .int l2), (3, .int l3), (4, .int l4)] [] m o (k5 l0 l2 l3 l4 m o)) (l0 : Nat) (l2 : Int32) (l3 : Int32) (l4 : Int32) (m : Mm) (o : Prop) : Mh wU l E mi_X12_works c0 s0 118 [(0, .ref l0), (2, .int l2), (3, .int l3), (4, .int l4)] [] m o (f_X12_works_118 k5 l0 l2 l3 l4 m o) := by
  refine Mh_iinc (v := l3 + 1) (lv' := [(3, .int (l3 + 1)), (0, .ref l0), (2, .int l2), (4, .int l4)]) 2 dX12_works_118 rfl rfl (Nat.le_of_ble_eq_true rfl) rfl ?_
  refine Mh_sub (lv' := [(0, .ref l0), (2, .int l2), (3, .int (l3 + 1)), (4, .int l4)]) [1, 2, 0, 3] rfl ?_
  exact t_X12_works_121 l E c0 s0 k5 hk5 _ _ _ _ _ _
def f_X12_works_117 (k5 : Nat → Int32 → Int32 → Int32 → Mm → Prop → Unit × Mm × Prop) (l0 : Nat) (l2 : Int32) (l3 : Int32) (l4 : Int32) (y2 : Int32) (y1 : Int32) (y0 : Nat) (m : Mm) (o : Prop) : Unit × Mm × Prop := f_X12_works_118 k5 l0 l2 l3 l4 (sI m y0 (ix y1) y2) (o ∧ (gT m y0 = 20 ∧ vp_in y1 (gN m y0)))
set_option maxRecDepth 10000 in
theorem t_X12_works_117 (l : Launch) (E : En) (c0 s0 : Nat) (k5 : Nat → Int32 → Int32 → Int32 → Mm → Prop → Unit × Mm × Prop) (hk5 : ∀ (l0 : Nat) (l2 : Int32) (l3 : Int32) (l4 : Int32) (m : Mm) (o : Prop), Mh wU l E mi_X12_works c0 s0 5 [(0, .ref l0), (2, .int l2), (3, .int l3), (4, .int l4)] [] m o (k5 l0 l2 l3 l4 m o)) (l0 : Nat) (l2 : Int32) (l3 : Int32) (l4 : Int32) (y2 : Int32) (y1 : Int32) (y0 : Nat) (m : Mm) (o : Prop) : Mh wU l E mi_X12_works c0 s0 117 [(0, .ref l0), (2, .int l2), (3, .int l3), (4, .int l4)] [.int y2, .int y1, .ref y0] m o (f_X12_works_117 k5 l0 l2 l3 l4 y2 y1 y0 m o) := by
  refine Mh_ias dX12_works_117 ?_
  exact t_X12_works_118 l E c0 s0 k5 hk5 _ _ _ _ _ _
def f_X12_works_81 (k5 : Nat → Int32 → Int32 → Int32 → Mm → Prop → Unit × Mm × Prop) (l0 : Nat) (l2 : Int32) (l3 : Int32) (l4 : Int32) (m : Mm) (o : Prop) : Unit × Mm × Prop := if (gI m (gR m l0 27) (ix l4)) = 0 then (f_X12_works_117 k5 l0 l2 l3 l4 (gI m (gR m l0 28) (ix l4)) l3 (gR m l0 47) m (((((o ∧ (gT m l0 = 12 ∧ gR m l0 47 ≠ 0)) ∧ (gT m l0 = 12 ∧ gR m l0 27 ≠ 0)) ∧ (gT m (gR m l0 27) = 20 ∧ vp_in l4 (gN m (gR m l0 27)))) ∧ (gT m l0 = 12 ∧ gR m l0 28 ≠ 0)) ∧ (gT m (gR m l0 28) = 20 ∧ vp_in l4 (gN m (gR m l0 28))))) else (bnd (F_X12_valueOf l0 (gI m (gR m l0 28) (ix l4)) m ((((((o ∧ (gT m l0 = 12 ∧ gR m l0 47 ≠ 0)) ∧ (gT m l0 = 12 ∧ gR m l0 27 ≠ 0)) ∧ (gT m (gR m l0 27) = 20 ∧ vp_in l4 (gN m (gR m l0 27)))) ∧ (gT m l0 = 12 ∧ gR m l0 28 ≠ 0)) ∧ (gT m (gR m l0 28) = 20 ∧ vp_in l4 (gN m (gR m l0 28)))) ∧ gT m l0 = 12)) (fun v1 m1 o1 => f_X12_works_117 k5 l0 l2 l3 l4 v1 l3 (gR m l0 47) m1 o1))
set_option maxRecDepth 10000 in
theorem t_X12_works_81 (l : Launch) (E : En) (c0 s0 : Nat) (k5 : Nat → Int32 → Int32 → Int32 → Mm → Prop → Unit × Mm × Prop) (hk5 : ∀ (l0 : Nat) (l2 : Int32) (l3 : Int32) (l4 : Int32) (m : Mm) (o : Prop), Mh wU l E mi_X12_works c0 s0 5 [(0, .ref l0), (2, .int l2), (3, .int l3), (4, .int l4)] [] m o (k5 l0 l2 l3 l4 m o)) (l0 : Nat) (l2 : Int32) (l3 : Int32) (l4 : Int32) (m : Mm) (o : Prop) : Mh wU l E mi_X12_works c0 s0 81 [(0, .ref l0), (2, .int l2), (3, .int l3), (4, .int l4)] [] m o (f_X12_works_81 k5 l0 l2 l3 l4 m o) := by
  refine Mh_aload_n 0 rfl dX12_works_81 ?_
  refine Mh_gR fd_11_47 fl_RX12_103 dX12_works_82 ?_
  refine Mh_iload_n 2 rfl dX12_works_85 ?_
  refine Mh_aload_n 0 rfl dX12_works_86 ?_
  refine Mh_gR fd_11_27 fl_RX12_76 dX12_works_87 ?_
  refine Mh_iload 3 rfl dX12_works_90 ?_
  refine Mh_ial dX12_works_92 ?_
  refine Mh_if_ne (tgt := 106) dX12_works_93 (by decide) rfl (fun _ => ?_) (fun _ => ?_)
  · refine Mh_aload_n 0 rfl dX12_works_106 ?_
    refine Mh_aload_n 0 rfl dX12_works_107 ?_
    refine Mh_gR fd_11_28 fl_RX12_79 dX12_works_108 ?_
    refine Mh_iload 3 rfl dX12_works_111 ?_
    refine Mh_ial dX12_works_113 ?_
    refine Mh_cvI (N := mi_X12_valueOf) (q := l0) (ci := 11) (as := [.int (gI m (gR m l0 28) (ix l4))]) (st := [.int l3, .ref (gR m l0 47)]) (id) cg_yX12_valueOf (by decide) rfl rfl ml_RX12_372 iv_yX12_valueOf pd_yX12_valueOf rfl (by decide) (Nat.le_of_ble_eq_true rfl) rfl dX12_works_114 (T_X12_valueOf l E _ _ _ _) rfl ?_
    exact t_X12_works_117 l E c0 s0 k5 hk5 _ _ _ _ _ _ _ _ _
  · refine Mh_aload_n 0 rfl dX12_works_96 ?_
    refine Mh_gR fd_11_28 fl_RX12_79 dX12_works_97 ?_
    refine Mh_iload 3 rfl dX12_works_100 ?_
    refine Mh_ial dX12_works_102 ?_
    refine Mh_goto (tgt := 117) dX12_works_103 (by decide) ?_
    exact t_X12_works_117 l E c0 s0 k5 hk5 _ _ _ _ _ _ _ _ _
def f_X12_works_5b (k5 : Nat → Int32 → Int32 → Int32 → Mm → Prop → Unit × Mm × Prop) (l0 : Nat) (l2 : Int32) (l3 : Int32) (l4 : Int32) (m : Mm) (o : Prop) : Unit × Mm × Prop := if l2 ≤ l4 then ((), m, o) else (if (gI m (gR m l0 27) (ix l4)) ≤ (2 : Int32) then (if (gI m (gR m l0 27) (ix l4)) = (2 : Int32) then (f_X12_works_71 k5 l0 l2 l3 l4 (sI m (gR m l0 47) (ix (l3 - (1 : Int32))) ((1 : Int32) - (gI m (gR m l0 47) (ix (l3 - (1 : Int32)))))) ((((o ∧ (gT m l0 = 12 ∧ gR m l0 27 ≠ 0)) ∧ (gT m (gR m l0 27) = 20 ∧ vp_in l4 (gN m (gR m l0 27)))) ∧ (gT m l0 = 12 ∧ gR m l0 47 ≠ 0)) ∧ (gT m (gR m l0 47) = 20 ∧ vp_in (l3 - (1 : Int32)) (gN m (gR m l0 47))))) else (f_X12_works_81 k5 l0 l2 l3 l4 (sI m (gR m l0 48) (ix l3) ((0 : Int32) &&& 1)) ((((o ∧ (gT m l0 = 12 ∧ gR m l0 27 ≠ 0)) ∧ (gT m (gR m l0 27) = 20 ∧ vp_in l4 (gN m (gR m l0 27)))) ∧ (gT m l0 = 12 ∧ gR m l0 48 ≠ 0)) ∧ (gT m (gR m l0 48) = 22 ∧ vp_in l3 (gN m (gR m l0 48)))))) else (bnd (F_X12_does l0 (gI m (gR m l0 27) (ix l4)) ((l3 + (-1)) - (1 : Int32)) m (((o ∧ (gT m l0 = 12 ∧ gR m l0 27 ≠ 0)) ∧ (gT m (gR m l0 27) = 20 ∧ vp_in l4 (gN m (gR m l0 27)))) ∧ gT m l0 = 12)) (fun _ m1 o1 => f_X12_works_39 k5 l0 l2 (l3 + (-1)) l4 m1 o1)))
set_option maxRecDepth 10000 in
theorem t_X12_works_5b (l : Launch) (E : En) (c0 s0 : Nat) (k5 : Nat → Int32 → Int32 → Int32 → Mm → Prop → Unit × Mm × Prop) (hk5 : ∀ (l0 : Nat) (l2 : Int32) (l3 : Int32) (l4 : Int32) (m : Mm) (o : Prop), Mh wU l E mi_X12_works c0 s0 5 [(0, .ref l0), (2, .int l2), (3, .int l3), (4, .int l4)] [] m o (k5 l0 l2 l3 l4 m o)) (l0 : Nat) (l2 : Int32) (l3 : Int32) (l4 : Int32) (m : Mm) (o : Prop) : Mh wU l E mi_X12_works c0 s0 5 [(0, .ref l0), (2, .int l2), (3, .int l3), (4, .int l4)] [] m o (f_X12_works_5b k5 l0 l2 l3 l4 m o) := by
  refine Mh_iload 3 rfl dX12_works_5 ?_
  refine Mh_iload_n 1 rfl dX12_works_7 ?_
  refine Mh_icmp_ge (tgt := 127) dX12_works_8 (by decide) rfl (fun _ => ?_) (fun _ => ?_)
  · exact Mh_ret dX12_works_127 rfl (fun _ => trivial) rfl
  · refine Mh_aload_n 0 rfl dX12_works_11 ?_
    refine Mh_gR fd_11_27 fl_RX12_76 dX12_works_12 ?_
    refine Mh_iload 3 rfl dX12_works_15 ?_
    refine Mh_ial dX12_works_17 ?_
    refine Mh_iconst (v := 2) dX12_works_18 (by decide) ?_
    refine Mh_icmp_le (tgt := 42) dX12_works_19 (by decide) rfl (fun _ => ?_) (fun _ => ?_)
    · refine Mh_aload_n 0 rfl dX12_works_42 ?_
      refine Mh_gR fd_11_27 fl_RX12_76 dX12_works_43 ?_
      refine Mh_ok (fun h => h.1.2) ?_
      refine Mh_iload 3 rfl dX12_works_46 ?_
      refine Mh_ial dX12_works_48 ?_
      refine Mh_ok (fun h => h.2) ?_
      refine Mh_iconst (v := 2) dX12_works_49 (by decide) ?_
      refine Mh_icmp_ne (tgt := 74) dX12_works_50 (by decide) rfl (fun _ => ?_) (fun _ => ?_)
      · refine Mh_aload_n 0 rfl dX12_works_74 ?_
        refine Mh_gR fd_11_48 fl_RX12_106 dX12_works_75 ?_
        refine Mh_iload_n 2 rfl dX12_works_78 ?_
        refine Mh_iconst (v := 0) dX12_works_79 (by decide) ?_
        refine Mh_zas dX12_works_80 ?_
        exact t_X12_works_81 l E c0 s0 k5 hk5 _ _ _ _ _ _
      · refine Mh_aload_n 0 rfl dX12_works_53 ?_
        refine Mh_gR fd_11_47 fl_RX12_103 dX12_works_54 ?_
        refine Mh_iload_n 2 rfl dX12_works_57 ?_
        refine Mh_iconst (v := 1) dX12_works_58 (by decide) ?_
        refine Mh_isub dX12_works_59 ?_
        refine Mh_iconst (v := 1) dX12_works_60 (by decide) ?_
        refine Mh_aload_n 0 rfl dX12_works_61 ?_
        refine Mh_gR fd_11_47 fl_RX12_103 dX12_works_62 ?_
        refine Mh_ok (fun h => h.2) ?_
        refine Mh_iload_n 2 rfl dX12_works_65 ?_
        refine Mh_iconst (v := 1) dX12_works_66 (by decide) ?_
        refine Mh_isub dX12_works_67 ?_
        refine Mh_ial dX12_works_68 ?_
        refine Mh_isub dX12_works_69 ?_
        refine Mh_ias dX12_works_70 ?_
        refine Mh_ok (fun h => h.2) ?_
        exact t_X12_works_71 l E c0 s0 k5 hk5 _ _ _ _ _ _
    · refine Mh_iinc (v := l3 + (-1)) (lv' := [(3, .int (l3 + (-1))), (0, .ref l0), (2, .int l2), (4, .int l4)]) 2 dX12_works_22 rfl rfl (Nat.le_of_ble_eq_true rfl) rfl ?_
      refine Mh_aload_n 1 rfl dX12_works_25 ?_
      refine Mh_aload_n 1 rfl dX12_works_26 ?_
      refine Mh_gR fd_11_27 fl_RX12_76 dX12_works_27 ?_
      refine Mh_ok (fun h => h.1.2) ?_
      refine Mh_iload 3 rfl dX12_works_30 ?_
      refine Mh_ial dX12_works_32 ?_
      refine Mh_ok (fun h => h.2) ?_
      refine Mh_iload_n 0 rfl dX12_works_33 ?_
      refine Mh_iconst (v := 1) dX12_works_34 (by decide) ?_
      refine Mh_isub dX12_works_35 ?_
      refine Mh_cvU (N := mi_X12_does) (q := l0) (ci := 11) (as := [.int (gI m (gR m l0 27) (ix l4)), .int ((l3 + (-1)) - (1 : Int32))]) (st := []) (id) cg_yX12_does (by decide) rfl rfl ml_RX12_369 iv_yX12_does pd_yX12_does rfl (by decide) (Nat.le_of_ble_eq_true rfl) rfl dX12_works_36 (T_X12_does l E _ _ _ _ _) rfl ?_
      refine Mh_sub (lv' := [(0, .ref l0), (2, .int l2), (3, .int (l3 + (-1))), (4, .int l4)]) [1, 2, 0, 3] rfl ?_
      exact t_X12_works_39 l E c0 s0 k5 hk5 _ _ _ _ _ _
def f_X12_works_5 : Nat → Nat → Int32 → Int32 → Int32 → Mm → Prop → Unit × Mm × Prop
  | 0, _, _, _, _, m, _ => ((), m, False)
  | n + 1, l0, l2, l3, l4, m, o => f_X12_works_5b (f_X12_works_5 n) l0 l2 l3 l4 m o
theorem t_X12_works_5 (l : Launch) (E : En) (c0 s0 : Nat) : ∀ (n : Nat) (l0 : Nat) (l2 : Int32) (l3 : Int32) (l4 : Int32) (m : Mm) (o : Prop), Mh wU l E mi_X12_works c0 s0 5 [(0, .ref l0), (2, .int l2), (3, .int l3), (4, .int l4)] [] m o (f_X12_works_5 n l0 l2 l3 l4 m o)
  | 0, _, _, _, _, _, _ => Mh_out rfl
  | n + 1, l0, l2, l3, l4, m, o => t_X12_works_5b l E c0 s0 (f_X12_works_5 n) (t_X12_works_5 l E c0 s0 n) l0 l2 l3 l4 m o
def f_X12_works_0 (l0 : Nat) (l1 : Int32) (l2 : Int32) (m : Mm) (o : Prop) : Unit × Mm × Prop := f_X12_works_5 1000 l0 l2 (0 : Int32) l1 m o
set_option maxRecDepth 10000 in
theorem t_X12_works_0 (l : Launch) (E : En) (c0 s0 : Nat) (l0 : Nat) (l1 : Int32) (l2 : Int32) (m : Mm) (o : Prop) : Mh wU l E mi_X12_works c0 s0 0 [(0, .ref l0), (1, .int l1), (2, .int l2)] [] m o (f_X12_works_0 l0 l1 l2 m o) := by
  refine Mh_iconst (v := 0) dX12_works_0 (by decide) ?_
  refine Mh_istore_n (lv' := [(3, .int (0 : Int32)), (0, .ref l0), (1, .int l1), (2, .int l2)]) dX12_works_1 (Nat.le_of_ble_eq_true rfl) rfl ?_
  refine Mh_iload_n 2 rfl dX12_works_2 ?_
  refine Mh_istore (lv' := [(4, .int l1), (3, .int (0 : Int32)), (0, .ref l0), (1, .int l1), (2, .int l2)]) dX12_works_3 (Nat.le_of_ble_eq_true rfl) rfl ?_
  refine Mh_sub (lv' := [(0, .ref l0), (2, .int l2), (3, .int (0 : Int32)), (4, .int l1)]) [2, 4, 1, 0] rfl ?_
  exact t_X12_works_5 l E c0 s0 _ _ _ _ _ _ _
def F_X12_works (a0 : Nat) (a1 : Int32) (a2 : Int32) (m : Mm) (o : Prop) : Unit × Mm × Prop := f_X12_works_0 a0 a1 a2 m o
theorem T_X12_works (l : Launch) (E : En) (a0 : Nat) (a1 : Int32) (a2 : Int32) (m : Mm) (o : Prop) : Mt wU l E yX12_works mi_X12_works [.ref a0, .int a1, .int a2] m o (F_X12_works a0 a1 a2 m o) :=
  Mt_U (by decide) rfl (fun h => by cases h) rfl (Nat.le_of_ble_eq_true rfl) rfl (t_X12_works_0 l E _ _ _ _ _ _ _)
def f_X12_holds_40 (y0 : Int32) (m : Mm) (o : Prop) : Int32 × Mm × Prop := (y0, m, o ∧ (y0 = 0 ∨ y0 = 1))
set_option maxRecDepth 10000 in
theorem t_X12_holds_40 (l : Launch) (E : En) (c0 s0 : Nat) (y0 : Int32) (m : Mm) (o : Prop) : Mh wI l E mi_X12_holds c0 s0 40 [] [.int y0] m o (f_X12_holds_40 y0 m o) := by
  exact Mh_retZ dX12_holds_40 (.inl rfl) rfl
def f_X12_holds_39 (m : Mm) (o : Prop) : Int32 × Mm × Prop := f_X12_holds_40 (0 : Int32) m o
set_option maxRecDepth 10000 in
theorem t_X12_holds_39 (l : Launch) (E : En) (c0 s0 : Nat) (m : Mm) (o : Prop) : Mh wI l E mi_X12_holds c0 s0 39 [] [] m o (f_X12_holds_39  m o) := by
  refine Mh_iconst (v := 0) dX12_holds_39 (by decide) ?_
  exact t_X12_holds_40 l E c0 s0 _ _ _
def f_X12_holds_16 (l0 : Nat) (m : Mm) (o : Prop) : Int32 × Mm × Prop := if (gI m (gR m l0 48) (ix (0 : Int32))) = 0 then (if (gI m (gR m l0 47) (ix (0 : Int32))) = (1 : Int32) then (f_X12_holds_40 (1 : Int32) m ((((o ∧ (gT m l0 = 12 ∧ gR m l0 48 ≠ 0)) ∧ (gT m (gR m l0 48) = 22 ∧ vp_in (0 : Int32) (gN m (gR m l0 48)))) ∧ (gT m l0 = 12 ∧ gR m l0 47 ≠ 0)) ∧ (gT m (gR m l0 47) = 20 ∧ vp_in (0 : Int32) (gN m (gR m l0 47))))) else (f_X12_holds_39  m ((((o ∧ (gT m l0 = 12 ∧ gR m l0 48 ≠ 0)) ∧ (gT m (gR m l0 48) = 22 ∧ vp_in (0 : Int32) (gN m (gR m l0 48)))) ∧ (gT m l0 = 12 ∧ gR m l0 47 ≠ 0)) ∧ (gT m (gR m l0 47) = 20 ∧ vp_in (0 : Int32) (gN m (gR m l0 47)))))) else (f_X12_holds_39  m ((o ∧ (gT m l0 = 12 ∧ gR m l0 48 ≠ 0)) ∧ (gT m (gR m l0 48) = 22 ∧ vp_in (0 : Int32) (gN m (gR m l0 48)))))
set_option maxRecDepth 10000 in
theorem t_X12_holds_16 (l : Launch) (E : En) (c0 s0 : Nat) (l0 : Nat) (m : Mm) (o : Prop) : Mh wI l E mi_X12_holds c0 s0 16 [(0, .ref l0)] [] m o (f_X12_holds_16 l0 m o) := by
  refine Mh_aload_n 0 rfl dX12_holds_16 ?_
  refine Mh_gR fd_11_48 fl_RX12_106 dX12_holds_17 ?_
  refine Mh_iconst (v := 0) dX12_holds_20 (by decide) ?_
  refine Mh_zal dX12_holds_21 ?_
  refine Mh_if_ne (tgt := 39) dX12_holds_22 (by decide) rfl (fun _ => ?_) (fun _ => ?_)
  · refine Mh_sub (lv' := []) [] rfl ?_
    exact t_X12_holds_39 l E c0 s0  _ _
  · refine Mh_aload_n 0 rfl dX12_holds_25 ?_
    refine Mh_gR fd_11_47 fl_RX12_103 dX12_holds_26 ?_
    refine Mh_iconst (v := 0) dX12_holds_29 (by decide) ?_
    refine Mh_ial dX12_holds_30 ?_
    refine Mh_iconst (v := 1) dX12_holds_31 (by decide) ?_
    refine Mh_icmp_ne (tgt := 39) dX12_holds_32 (by decide) rfl (fun _ => ?_) (fun _ => ?_)
    · refine Mh_sub (lv' := []) [] rfl ?_
      exact t_X12_holds_39 l E c0 s0  _ _
    · refine Mh_iconst (v := 1) dX12_holds_35 (by decide) ?_
      refine Mh_goto (tgt := 40) dX12_holds_36 (by decide) ?_
      refine Mh_sub (lv' := []) [] rfl ?_
      exact t_X12_holds_40 l E c0 s0 _ _ _
def f_X12_holds_0 (l0 : Nat) (l1 : Int32) (m : Mm) (o : Prop) : Int32 × Mm × Prop := bnd (F_X12_works l0 (gI m (gR m l0 25) (ix l1)) (gI m (gR m l0 26) (ix l1)) m (((((o ∧ (gT m l0 = 12 ∧ gR m l0 25 ≠ 0)) ∧ (gT m (gR m l0 25) = 20 ∧ vp_in l1 (gN m (gR m l0 25)))) ∧ (gT m l0 = 12 ∧ gR m l0 26 ≠ 0)) ∧ (gT m (gR m l0 26) = 20 ∧ vp_in l1 (gN m (gR m l0 26)))) ∧ gT m l0 = 12)) (fun _ m1 o1 => f_X12_holds_16 l0 m1 o1)
set_option maxRecDepth 10000 in
theorem t_X12_holds_0 (l : Launch) (E : En) (c0 s0 : Nat) (l0 : Nat) (l1 : Int32) (m : Mm) (o : Prop) : Mh wI l E mi_X12_holds c0 s0 0 [(0, .ref l0), (1, .int l1)] [] m o (f_X12_holds_0 l0 l1 m o) := by
  refine Mh_aload_n 0 rfl dX12_holds_0 ?_
  refine Mh_aload_n 0 rfl dX12_holds_1 ?_
  refine Mh_gR fd_11_25 fl_RX12_70 dX12_holds_2 ?_
  refine Mh_iload_n 1 rfl dX12_holds_5 ?_
  refine Mh_ial dX12_holds_6 ?_
  refine Mh_aload_n 0 rfl dX12_holds_7 ?_
  refine Mh_gR fd_11_26 fl_RX12_73 dX12_holds_8 ?_
  refine Mh_iload_n 1 rfl dX12_holds_11 ?_
  refine Mh_ial dX12_holds_12 ?_
  refine Mh_cvU (N := mi_X12_works) (q := l0) (ci := 11) (as := [.int (gI m (gR m l0 25) (ix l1)), .int (gI m (gR m l0 26) (ix l1))]) (st := []) (id) cg_yX12_works (by decide) rfl rfl ml_RX12_375 iv_yX12_works pd_yX12_works rfl (by decide) (Nat.le_of_ble_eq_true rfl) rfl dX12_holds_13 (T_X12_works l E _ _ _ _ _) rfl ?_
  refine Mh_sub (lv' := [(0, .ref l0)]) [0] rfl ?_
  exact t_X12_holds_16 l E c0 s0 _ _ _
def F_X12_holds (a0 : Nat) (a1 : Int32) (m : Mm) (o : Prop) : Int32 × Mm × Prop := f_X12_holds_0 a0 a1 m o
theorem T_X12_holds (l : Launch) (E : En) (a0 : Nat) (a1 : Int32) (m : Mm) (o : Prop) : Mt wI l E yX12_holds mi_X12_holds [.ref a0, .int a1] m o (F_X12_holds a0 a1 m o) :=
  Mt_I (by decide) rfl rfl rfl (Nat.le_of_ble_eq_true rfl) rfl (.inr (.inl rfl)) (t_X12_holds_0 l E _ _ _ _ _ _)
def f_X12_tells_89 (y0 : Int32) (m : Mm) (o : Prop) : Int32 × Mm × Prop := (y0, m, o)
set_option maxRecDepth 10000 in
theorem t_X12_tells_89 (l : Launch) (E : En) (c0 s0 : Nat) (y0 : Int32) (m : Mm) (o : Prop) : Mh wI l E mi_X12_tells c0 s0 89 [] [.int y0] m o (f_X12_tells_89 y0 m o) := by
  exact Mh_ret dX12_tells_89 rfl (fun _ => rfl) rfl
def f_X12_tells_66 (l2 : Int32) (y0 : Int32) (m : Mm) (o : Prop) : Int32 × Mm × Prop := if 0 ≤ y0 then (if y0 ≤ l2 then (f_X12_tells_89 y0 m o) else (f_X12_tells_89 l2 m o)) else (f_X12_tells_89 (0 : Int32) m o)
set_option maxRecDepth 10000 in
theorem t_X12_tells_66 (l : Launch) (E : En) (c0 s0 : Nat) (l2 : Int32) (y0 : Int32) (m : Mm) (o : Prop) : Mh wI l E mi_X12_tells c0 s0 66 [(2, .int l2)] [.int y0] m o (f_X12_tells_66 l2 y0 m o) := by
  refine Mh_istore (lv' := [(4, .int y0), (2, .int l2)]) dX12_tells_66 (Nat.le_of_ble_eq_true rfl) rfl ?_
  refine Mh_iload 0 rfl dX12_tells_68 ?_
  refine Mh_if_ge (tgt := 77) dX12_tells_70 (by decide) rfl (fun _ => ?_) (fun _ => ?_)
  · refine Mh_iload 0 rfl dX12_tells_77 ?_
    refine Mh_iload_n 1 rfl dX12_tells_79 ?_
    refine Mh_icmp_le (tgt := 87) dX12_tells_80 (by decide) rfl (fun _ => ?_) (fun _ => ?_)
    · refine Mh_iload 0 rfl dX12_tells_87 ?_
      refine Mh_sub (lv' := []) [] rfl ?_
      exact t_X12_tells_89 l E c0 s0 _ _ _
    · refine Mh_iload_n 1 rfl dX12_tells_83 ?_
      refine Mh_goto (tgt := 89) dX12_tells_84 (by decide) ?_
      refine Mh_sub (lv' := []) [] rfl ?_
      exact t_X12_tells_89 l E c0 s0 _ _ _
  · refine Mh_iconst (v := 0) dX12_tells_73 (by decide) ?_
    refine Mh_goto (tgt := 89) dX12_tells_74 (by decide) ?_
    refine Mh_sub (lv' := []) [] rfl ?_
    exact t_X12_tells_89 l E c0 s0 _ _ _
def f_X12_tells_47 (l0 : Nat) (l2 : Int32) (m : Mm) (o : Prop) : Int32 × Mm × Prop := if (gI m (gR m l0 48) (ix (0 : Int32))) = 0 then (f_X12_tells_66 l2 (gI m (gR m l0 47) (ix (0 : Int32))) m ((((o ∧ (gT m l0 = 12 ∧ gR m l0 48 ≠ 0)) ∧ (gT m (gR m l0 48) = 22 ∧ vp_in (0 : Int32) (gN m (gR m l0 48)))) ∧ (gT m l0 = 12 ∧ gR m l0 47 ≠ 0)) ∧ (gT m (gR m l0 47) = 20 ∧ vp_in (0 : Int32) (gN m (gR m l0 47))))) else (f_X12_tells_66 l2 (0 : Int32) m ((o ∧ (gT m l0 = 12 ∧ gR m l0 48 ≠ 0)) ∧ (gT m (gR m l0 48) = 22 ∧ vp_in (0 : Int32) (gN m (gR m l0 48)))))
set_option maxRecDepth 10000 in
theorem t_X12_tells_47 (l : Launch) (E : En) (c0 s0 : Nat) (l0 : Nat) (l2 : Int32) (m : Mm) (o : Prop) : Mh wI l E mi_X12_tells c0 s0 47 [(0, .ref l0), (2, .int l2)] [] m o (f_X12_tells_47 l0 l2 m o) := by
  refine Mh_aload_n 0 rfl dX12_tells_47 ?_
  refine Mh_gR fd_11_48 fl_RX12_106 dX12_tells_48 ?_
  refine Mh_iconst (v := 0) dX12_tells_51 (by decide) ?_
  refine Mh_zal dX12_tells_52 ?_
  refine Mh_if_eq (tgt := 60) dX12_tells_53 (by decide) rfl (fun _ => ?_) (fun _ => ?_)
  · refine Mh_aload_n 0 rfl dX12_tells_60 ?_
    refine Mh_gR fd_11_47 fl_RX12_103 dX12_tells_61 ?_
    refine Mh_iconst (v := 0) dX12_tells_64 (by decide) ?_
    refine Mh_ial dX12_tells_65 ?_
    refine Mh_sub (lv' := [(2, .int l2)]) [1] rfl ?_
    exact t_X12_tells_66 l E c0 s0 _ _ _ _
  · refine Mh_iconst (v := 0) dX12_tells_56 (by decide) ?_
    refine Mh_goto (tgt := 66) dX12_tells_57 (by decide) ?_
    refine Mh_sub (lv' := [(2, .int l2)]) [1] rfl ?_
    exact t_X12_tells_66 l E c0 s0 _ _ _ _
def f_X12_tells_90 (k2 : Nat → Int32 → Int32 → Int32 → Mm → Prop → Int32 × Mm × Prop) (l0 : Nat) (l1 : Int32) (l2 : Int32) (l3 : Int32) (m : Mm) (o : Prop) : Int32 × Mm × Prop := k2 l0 l1 l2 (l3 + 1) m o
set_option maxRecDepth 10000 in
theorem t_X12_tells_90 (l : Launch) (E : En) (c0 s0 : Nat) (k2 : Nat → Int32 → Int32 → Int32 → Mm → Prop → Int32 × Mm × Prop) (hk2 : ∀ (l0 : Nat) (l1 : Int32) (l2 : Int32) (l3 : Int32) (m : Mm) (o : Prop), Mh wI l E mi_X12_tells c0 s0 2 [(0, .ref l0), (1, .int l1), (2, .int l2), (3, .int l3)] [] m o (k2 l0 l1 l2 l3 m o)) (l0 : Nat) (l1 : Int32) (l2 : Int32) (l3 : Int32) (m : Mm) (o : Prop) : Mh wI l E mi_X12_tells c0 s0 90 [(0, .ref l0), (1, .int l1), (2, .int l2), (3, .int l3)] [] m o (f_X12_tells_90 k2 l0 l1 l2 l3 m o) := by
  refine Mh_iinc (v := l3 + 1) (lv' := [(3, .int (l3 + 1)), (0, .ref l0), (1, .int l1), (2, .int l2)]) 3 dX12_tells_90 rfl rfl (Nat.le_of_ble_eq_true rfl) rfl ?_
  refine Mh_goto (tgt := 2) dX12_tells_93 (by decide) ?_
  refine Mh_sub (lv' := [(0, .ref l0), (1, .int l1), (2, .int l2), (3, .int (l3 + 1))]) [1, 2, 3, 0] rfl ?_
  exact hk2 _ _ _ _ _ _
def f_X12_tells_25 (k2 : Nat → Int32 → Int32 → Int32 → Mm → Prop → Int32 × Mm × Prop) (l0 : Nat) (l1 : Int32) (l2 : Int32) (l3 : Int32) (y0 : Int32) (m : Mm) (o : Prop) : Int32 × Mm × Prop := if y0 = 0 then (f_X12_tells_90 k2 l0 l1 l2 l3 m o) else (bnd (F_X12_works l0 (gI m (gR m l0 24) (ix l3)) (gI m (gR m l0 25) (ix l3)) m (((((o ∧ (gT m l0 = 12 ∧ gR m l0 24 ≠ 0)) ∧ (gT m (gR m l0 24) = 20 ∧ vp_in l3 (gN m (gR m l0 24)))) ∧ (gT m l0 = 12 ∧ gR m l0 25 ≠ 0)) ∧ (gT m (gR m l0 25) = 20 ∧ vp_in l3 (gN m (gR m l0 25)))) ∧ gT m l0 = 12)) (fun _ m1 o1 => f_X12_tells_47 l0 l2 m1 o1))
set_option maxRecDepth 10000 in
theorem t_X12_tells_25 (l : Launch) (E : En) (c0 s0 : Nat) (k2 : Nat → Int32 → Int32 → Int32 → Mm → Prop → Int32 × Mm × Prop) (hk2 : ∀ (l0 : Nat) (l1 : Int32) (l2 : Int32) (l3 : Int32) (m : Mm) (o : Prop), Mh wI l E mi_X12_tells c0 s0 2 [(0, .ref l0), (1, .int l1), (2, .int l2), (3, .int l3)] [] m o (k2 l0 l1 l2 l3 m o)) (l0 : Nat) (l1 : Int32) (l2 : Int32) (l3 : Int32) (y0 : Int32) (m : Mm) (o : Prop) : Mh wI l E mi_X12_tells c0 s0 25 [(0, .ref l0), (1, .int l1), (2, .int l2), (3, .int l3)] [.int y0] m o (f_X12_tells_25 k2 l0 l1 l2 l3 y0 m o) := by
  refine Mh_if_ne (tgt := 31) dX12_tells_25 (by decide) rfl (fun _ => ?_) (fun _ => ?_)
  · refine Mh_aload_n 0 rfl dX12_tells_31 ?_
    refine Mh_aload_n 0 rfl dX12_tells_32 ?_
    refine Mh_gR fd_11_24 fl_RX12_67 dX12_tells_33 ?_
    refine Mh_iload_n 3 rfl dX12_tells_36 ?_
    refine Mh_ial dX12_tells_37 ?_
    refine Mh_aload_n 0 rfl dX12_tells_38 ?_
    refine Mh_gR fd_11_25 fl_RX12_70 dX12_tells_39 ?_
    refine Mh_iload_n 3 rfl dX12_tells_42 ?_
    refine Mh_ial dX12_tells_43 ?_
    refine Mh_cvU (N := mi_X12_works) (q := l0) (ci := 11) (as := [.int (gI m (gR m l0 24) (ix l3)), .int (gI m (gR m l0 25) (ix l3))]) (st := []) (id) cg_yX12_works (by decide) rfl rfl ml_RX12_375 iv_yX12_works pd_yX12_works rfl (by decide) (Nat.le_of_ble_eq_true rfl) rfl dX12_tells_44 (T_X12_works l E _ _ _ _ _) rfl ?_
    refine Mh_sub (lv' := [(0, .ref l0), (2, .int l2)]) [0, 2] rfl ?_
    exact t_X12_tells_47 l E c0 s0 _ _ _ _
  · refine Mh_goto (tgt := 90) dX12_tells_28 (by decide) ?_
    exact t_X12_tells_90 l E c0 s0 k2 hk2 _ _ _ _ _ _
def f_X12_tells_2b (k2 : Nat → Int32 → Int32 → Int32 → Mm → Prop → Int32 × Mm × Prop) (l0 : Nat) (l1 : Int32) (l2 : Int32) (l3 : Int32) (m : Mm) (o : Prop) : Int32 × Mm × Prop := if (gI m l0 22) ≤ l3 then ((0 : Int32), m, (o ∧ gT m l0 = 12)) else (if (gI m (gR m l0 23) (ix l3)) = l1 then (bnd (F_X12_holds l0 l3 m (((o ∧ gT m l0 = 12) ∧ (gT m l0 = 12 ∧ gR m l0 23 ≠ 0)) ∧ (gT m (gR m l0 23) = 20 ∧ vp_in l3 (gN m (gR m l0 23))))) (fun v1 m1 o1 => f_X12_tells_25 k2 l0 l1 l2 l3 v1 m1 o1)) else (f_X12_tells_90 k2 l0 l1 l2 l3 m (((o ∧ gT m l0 = 12) ∧ (gT m l0 = 12 ∧ gR m l0 23 ≠ 0)) ∧ (gT m (gR m l0 23) = 20 ∧ vp_in l3 (gN m (gR m l0 23))))))
set_option maxRecDepth 10000 in
theorem t_X12_tells_2b (l : Launch) (E : En) (c0 s0 : Nat) (k2 : Nat → Int32 → Int32 → Int32 → Mm → Prop → Int32 × Mm × Prop) (hk2 : ∀ (l0 : Nat) (l1 : Int32) (l2 : Int32) (l3 : Int32) (m : Mm) (o : Prop), Mh wI l E mi_X12_tells c0 s0 2 [(0, .ref l0), (1, .int l1), (2, .int l2), (3, .int l3)] [] m o (k2 l0 l1 l2 l3 m o)) (l0 : Nat) (l1 : Int32) (l2 : Int32) (l3 : Int32) (m : Mm) (o : Prop) : Mh wI l E mi_X12_tells c0 s0 2 [(0, .ref l0), (1, .int l1), (2, .int l2), (3, .int l3)] [] m o (f_X12_tells_2b k2 l0 l1 l2 l3 m o) := by
  refine Mh_iload_n 3 rfl dX12_tells_2 ?_
  refine Mh_aload_n 0 rfl dX12_tells_3 ?_
  refine Mh_gI fd_11_22 fl_RX12_342 dX12_tells_4 ?_
  refine Mh_icmp_ge (tgt := 96) dX12_tells_7 (by decide) rfl (fun _ => ?_) (fun _ => ?_)
  · refine Mh_iconst (v := 0) dX12_tells_96 (by decide) ?_
    exact Mh_ret dX12_tells_97 rfl (fun _ => rfl) rfl
  · refine Mh_aload_n 0 rfl dX12_tells_10 ?_
    refine Mh_gR fd_11_23 fl_RX12_64 dX12_tells_11 ?_
    refine Mh_iload_n 3 rfl dX12_tells_14 ?_
    refine Mh_ial dX12_tells_15 ?_
    refine Mh_iload_n 1 rfl dX12_tells_16 ?_
    refine Mh_icmp_ne (tgt := 90) dX12_tells_17 (by decide) rfl (fun _ => ?_) (fun _ => ?_)
    · exact t_X12_tells_90 l E c0 s0 k2 hk2 _ _ _ _ _ _
    · refine Mh_aload_n 0 rfl dX12_tells_20 ?_
      refine Mh_iload_n 3 rfl dX12_tells_21 ?_
      refine Mh_cvI (N := mi_X12_holds) (q := l0) (ci := 11) (as := [.int l3]) (st := []) (fun h => ⟨h, (fun h => h.1.1.2) h⟩) cg_yX12_holds (by decide) rfl rfl ml_RX12_378 iv_yX12_holds pd_yX12_holds rfl (by decide) (Nat.le_of_ble_eq_true rfl) rfl dX12_tells_22 (T_X12_holds l E _ _ _ _) rfl ?_
      exact t_X12_tells_25 l E c0 s0 k2 hk2 _ _ _ _ _ _ _
def f_X12_tells_2 : Nat → Nat → Int32 → Int32 → Int32 → Mm → Prop → Int32 × Mm × Prop
  | 0, _, _, _, _, m, _ => (0, m, False)
  | n + 1, l0, l1, l2, l3, m, o => f_X12_tells_2b (f_X12_tells_2 n) l0 l1 l2 l3 m o
theorem t_X12_tells_2 (l : Launch) (E : En) (c0 s0 : Nat) : ∀ (n : Nat) (l0 : Nat) (l1 : Int32) (l2 : Int32) (l3 : Int32) (m : Mm) (o : Prop), Mh wI l E mi_X12_tells c0 s0 2 [(0, .ref l0), (1, .int l1), (2, .int l2), (3, .int l3)] [] m o (f_X12_tells_2 n l0 l1 l2 l3 m o)
  | 0, _, _, _, _, _, _ => Mh_out rfl
  | n + 1, l0, l1, l2, l3, m, o => t_X12_tells_2b l E c0 s0 (f_X12_tells_2 n) (t_X12_tells_2 l E c0 s0 n) l0 l1 l2 l3 m o
def f_X12_tells_0 (l0 : Nat) (l1 : Int32) (l2 : Int32) (m : Mm) (o : Prop) : Int32 × Mm × Prop := f_X12_tells_2 1000 l0 l1 l2 (0 : Int32) m o
set_option maxRecDepth 10000 in
theorem t_X12_tells_0 (l : Launch) (E : En) (c0 s0 : Nat) (l0 : Nat) (l1 : Int32) (l2 : Int32) (m : Mm) (o : Prop) : Mh wI l E mi_X12_tells c0 s0 0 [(0, .ref l0), (1, .int l1), (2, .int l2)] [] m o (f_X12_tells_0 l0 l1 l2 m o) := by
  refine Mh_iconst (v := 0) dX12_tells_0 (by decide) ?_
  refine Mh_istore_n (lv' := [(3, .int (0 : Int32)), (0, .ref l0), (1, .int l1), (2, .int l2)]) dX12_tells_1 (Nat.le_of_ble_eq_true rfl) rfl ?_
  refine Mh_sub (lv' := [(0, .ref l0), (1, .int l1), (2, .int l2), (3, .int (0 : Int32))]) [1, 2, 3, 0] rfl ?_
  exact t_X12_tells_2 l E c0 s0 _ _ _ _ _ _ _
def F_X12_tells (a0 : Nat) (a1 : Int32) (a2 : Int32) (m : Mm) (o : Prop) : Int32 × Mm × Prop := f_X12_tells_0 a0 a1 a2 m o
theorem T_X12_tells (l : Launch) (E : En) (a0 : Nat) (a1 : Int32) (a2 : Int32) (m : Mm) (o : Prop) : Mt wI l E yX12_tells mi_X12_tells [.ref a0, .int a1, .int a2] m o (F_X12_tells a0 a1 a2 m o) :=
  Mt_I (by decide) rfl rfl rfl (Nat.le_of_ble_eq_true rfl) rfl (.inl rfl) (t_X12_tells_0 l E _ _ _ _ _ _ _)
def f_X12_wouldEat_41 (k12 : Nat → Int32 → Mm → Prop → Int32 × Mm × Prop) (l0 : Nat) (l3 : Int32) (m : Mm) (o : Prop) : Int32 × Mm × Prop := k12 l0 (l3 + 1) m o
set_option maxRecDepth 10000 in
theorem t_X12_wouldEat_41 (l : Launch) (E : En) (c0 s0 : Nat) (k12 : Nat → Int32 → Mm → Prop → Int32 × Mm × Prop) (hk12 : ∀ (l0 : Nat) (l3 : Int32) (m : Mm) (o : Prop), Mh wI l E mi_X12_wouldEat c0 s0 12 [(0, .ref l0), (3, .int l3)] [] m o (k12 l0 l3 m o)) (l0 : Nat) (l3 : Int32) (m : Mm) (o : Prop) : Mh wI l E mi_X12_wouldEat c0 s0 41 [(0, .ref l0), (3, .int l3)] [] m o (f_X12_wouldEat_41 k12 l0 l3 m o) := by
  refine Mh_iinc (v := l3 + 1) (lv' := [(3, .int (l3 + 1)), (0, .ref l0)]) 1 dX12_wouldEat_41 rfl rfl (Nat.le_of_ble_eq_true rfl) rfl ?_
  refine Mh_goto (tgt := 12) dX12_wouldEat_44 (by decide) ?_
  refine Mh_sub (lv' := [(0, .ref l0), (3, .int (l3 + 1))]) [1, 0] rfl ?_
  exact hk12 _ _ _ _
def f_X12_wouldEat_36 (k12 : Nat → Int32 → Mm → Prop → Int32 × Mm × Prop) (l0 : Nat) (l3 : Int32) (y0 : Int32) (m : Mm) (o : Prop) : Int32 × Mm × Prop := if y0 = 0 then (f_X12_wouldEat_41 k12 l0 l3 m o) else ((0 : Int32), m, o)
set_option maxRecDepth 10000 in
theorem t_X12_wouldEat_36 (l : Launch) (E : En) (c0 s0 : Nat) (k12 : Nat → Int32 → Mm → Prop → Int32 × Mm × Prop) (hk12 : ∀ (l0 : Nat) (l3 : Int32) (m : Mm) (o : Prop), Mh wI l E mi_X12_wouldEat c0 s0 12 [(0, .ref l0), (3, .int l3)] [] m o (k12 l0 l3 m o)) (l0 : Nat) (l3 : Int32) (y0 : Int32) (m : Mm) (o : Prop) : Mh wI l E mi_X12_wouldEat c0 s0 36 [(0, .ref l0), (3, .int l3)] [.int y0] m o (f_X12_wouldEat_36 k12 l0 l3 y0 m o) := by
  refine Mh_if_eq (tgt := 41) dX12_wouldEat_36 (by decide) rfl (fun _ => ?_) (fun _ => ?_)
  · exact t_X12_wouldEat_41 l E c0 s0 k12 hk12 _ _ _ _
  · refine Mh_iconst (v := 0) dX12_wouldEat_39 (by decide) ?_
    exact Mh_ret dX12_wouldEat_40 rfl (fun _ => rfl) rfl
def f_X12_wouldEat_56 (y0 : Int32) (m : Mm) (o : Prop) : Int32 × Mm × Prop := (y0, m, o)
set_option maxRecDepth 10000 in
theorem t_X12_wouldEat_56 (l : Launch) (E : En) (c0 s0 : Nat) (y0 : Int32) (m : Mm) (o : Prop) : Mh wI l E mi_X12_wouldEat c0 s0 56 [] [.int y0] m o (f_X12_wouldEat_56 y0 m o) := by
  exact Mh_ret dX12_wouldEat_56 rfl (fun _ => rfl) rfl
def f_X12_wouldEat_12b (k12 : Nat → Int32 → Mm → Prop → Int32 × Mm × Prop) (l0 : Nat) (l3 : Int32) (m : Mm) (o : Prop) : Int32 × Mm × Prop := if (gI m l0 22) ≤ l3 then (bnd (F_X12_tells l0 (101 : Int32) (999 : Int32) m (o ∧ gT m l0 = 12)) (fun v1 m1 o1 => f_X12_wouldEat_56 v1 m1 o1)) else (if (gI m (gR m l0 23) (ix l3)) = (110 : Int32) then (bnd (F_X12_holds l0 l3 m (((o ∧ gT m l0 = 12) ∧ (gT m l0 = 12 ∧ gR m l0 23 ≠ 0)) ∧ (gT m (gR m l0 23) = 20 ∧ vp_in l3 (gN m (gR m l0 23))))) (fun v1 m1 o1 => f_X12_wouldEat_36 k12 l0 l3 v1 m1 o1)) else (f_X12_wouldEat_41 k12 l0 l3 m (((o ∧ gT m l0 = 12) ∧ (gT m l0 = 12 ∧ gR m l0 23 ≠ 0)) ∧ (gT m (gR m l0 23) = 20 ∧ vp_in l3 (gN m (gR m l0 23))))))
set_option maxRecDepth 10000 in
theorem t_X12_wouldEat_12b (l : Launch) (E : En) (c0 s0 : Nat) (k12 : Nat → Int32 → Mm → Prop → Int32 × Mm × Prop) (hk12 : ∀ (l0 : Nat) (l3 : Int32) (m : Mm) (o : Prop), Mh wI l E mi_X12_wouldEat c0 s0 12 [(0, .ref l0), (3, .int l3)] [] m o (k12 l0 l3 m o)) (l0 : Nat) (l3 : Int32) (m : Mm) (o : Prop) : Mh wI l E mi_X12_wouldEat c0 s0 12 [(0, .ref l0), (3, .int l3)] [] m o (f_X12_wouldEat_12b k12 l0 l3 m o) := by
  refine Mh_iload_n 1 rfl dX12_wouldEat_12 ?_
  refine Mh_aload_n 0 rfl dX12_wouldEat_13 ?_
  refine Mh_gI fd_11_22 fl_RX12_342 dX12_wouldEat_14 ?_
  refine Mh_icmp_ge (tgt := 47) dX12_wouldEat_17 (by decide) rfl (fun _ => ?_) (fun _ => ?_)
  · refine Mh_aload_n 0 rfl dX12_wouldEat_47 ?_
    refine Mh_bipush (v := 101) dX12_wouldEat_48 (by decide) ?_
    refine Mh_sipush (v := 999) dX12_wouldEat_50 (by decide) ?_
    refine Mh_cvI (N := mi_X12_tells) (q := l0) (ci := 11) (as := [.int (101 : Int32), .int (999 : Int32)]) (st := []) (fun h => ⟨h, (fun h => h.2) h⟩) cg_yX12_tells (by decide) rfl rfl ml_RX12_381 iv_yX12_tells pd_yX12_tells rfl (by decide) (Nat.le_of_ble_eq_true rfl) rfl dX12_wouldEat_53 (T_X12_tells l E _ _ _ _ _) rfl ?_
    refine Mh_sub (lv' := []) [] rfl ?_
    exact t_X12_wouldEat_56 l E c0 s0 _ _ _
  · refine Mh_aload_n 0 rfl dX12_wouldEat_20 ?_
    refine Mh_gR fd_11_23 fl_RX12_64 dX12_wouldEat_21 ?_
    refine Mh_iload_n 1 rfl dX12_wouldEat_24 ?_
    refine Mh_ial dX12_wouldEat_25 ?_
    refine Mh_bipush (v := 110) dX12_wouldEat_26 (by decide) ?_
    refine Mh_icmp_ne (tgt := 41) dX12_wouldEat_28 (by decide) rfl (fun _ => ?_) (fun _ => ?_)
    · exact t_X12_wouldEat_41 l E c0 s0 k12 hk12 _ _ _ _
    · refine Mh_aload_n 0 rfl dX12_wouldEat_31 ?_
      refine Mh_iload_n 1 rfl dX12_wouldEat_32 ?_
      refine Mh_cvI (N := mi_X12_holds) (q := l0) (ci := 11) (as := [.int l3]) (st := []) (fun h => ⟨h, (fun h => h.1.1.2) h⟩) cg_yX12_holds (by decide) rfl rfl ml_RX12_378 iv_yX12_holds pd_yX12_holds rfl (by decide) (Nat.le_of_ble_eq_true rfl) rfl dX12_wouldEat_33 (T_X12_holds l E _ _ _ _) rfl ?_
      exact t_X12_wouldEat_36 l E c0 s0 k12 hk12 _ _ _ _ _
def f_X12_wouldEat_12 : Nat → Nat → Int32 → Mm → Prop → Int32 × Mm × Prop
  | 0, _, _, m, _ => (0, m, False)
  | n + 1, l0, l3, m, o => f_X12_wouldEat_12b (f_X12_wouldEat_12 n) l0 l3 m o
theorem t_X12_wouldEat_12 (l : Launch) (E : En) (c0 s0 : Nat) : ∀ (n : Nat) (l0 : Nat) (l3 : Int32) (m : Mm) (o : Prop), Mh wI l E mi_X12_wouldEat c0 s0 12 [(0, .ref l0), (3, .int l3)] [] m o (f_X12_wouldEat_12 n l0 l3 m o)
  | 0, _, _, _, _ => Mh_out rfl
  | n + 1, l0, l3, m, o => t_X12_wouldEat_12b l E c0 s0 (f_X12_wouldEat_12 n) (t_X12_wouldEat_12 l E c0 s0 n) l0 l3 m o
def f_X12_wouldEat_10 (l0 : Nat) (m : Mm) (o : Prop) : Int32 × Mm × Prop := f_X12_wouldEat_12 1000 l0 (0 : Int32) m o
set_option maxRecDepth 10000 in
theorem t_X12_wouldEat_10 (l : Launch) (E : En) (c0 s0 : Nat) (l0 : Nat) (m : Mm) (o : Prop) : Mh wI l E mi_X12_wouldEat c0 s0 10 [(0, .ref l0)] [] m o (f_X12_wouldEat_10 l0 m o) := by
  refine Mh_iconst (v := 0) dX12_wouldEat_10 (by decide) ?_
  refine Mh_istore_n (lv' := [(3, .int (0 : Int32)), (0, .ref l0)]) dX12_wouldEat_11 (Nat.le_of_ble_eq_true rfl) rfl ?_
  refine Mh_sub (lv' := [(0, .ref l0), (3, .int (0 : Int32))]) [1, 0] rfl ?_
  exact t_X12_wouldEat_12 l E c0 s0 _ _ _ _ _
def f_X12_wouldEat_5 (l0 : Nat) (l1 : Int32) (m : Mm) (o : Prop) : Int32 × Mm × Prop := f_X12_wouldEat_10 l0 (sI m l0 46 l1) (o ∧ gT m l0 = 12)
set_option maxRecDepth 10000 in
theorem t_X12_wouldEat_5 (l : Launch) (E : En) (c0 s0 : Nat) (l0 : Nat) (l1 : Int32) (m : Mm) (o : Prop) : Mh wI l E mi_X12_wouldEat c0 s0 5 [(0, .ref l0), (1, .int l1)] [] m o (f_X12_wouldEat_5 l0 l1 m o) := by
  refine Mh_aload_n 0 rfl dX12_wouldEat_5 ?_
  refine Mh_iload_n 1 rfl dX12_wouldEat_6 ?_
  refine Mh_pI fd_11_46 ft_11 rfl fl_RX12_349 rfl dX12_wouldEat_7 ?_
  refine Mh_sub (lv' := [(0, .ref l0)]) [0] rfl ?_
  exact t_X12_wouldEat_10 l E c0 s0 _ _ _
def f_X12_wouldEat_0 (l0 : Nat) (l1 : Int32) (l2 : Int32) (m : Mm) (o : Prop) : Int32 × Mm × Prop := f_X12_wouldEat_5 l0 l1 (sI m l0 45 l2) (o ∧ gT m l0 = 12)
set_option maxRecDepth 10000 in
theorem t_X12_wouldEat_0 (l : Launch) (E : En) (c0 s0 : Nat) (l0 : Nat) (l1 : Int32) (l2 : Int32) (m : Mm) (o : Prop) : Mh wI l E mi_X12_wouldEat c0 s0 0 [(0, .ref l0), (1, .int l1), (2, .int l2)] [] m o (f_X12_wouldEat_0 l0 l1 l2 m o) := by
  refine Mh_aload_n 0 rfl dX12_wouldEat_0 ?_
  refine Mh_iload_n 2 rfl dX12_wouldEat_1 ?_
  refine Mh_pI fd_11_45 ft_11 rfl fl_RX12_352 rfl dX12_wouldEat_2 ?_
  refine Mh_sub (lv' := [(0, .ref l0), (1, .int l1)]) [0, 1] rfl ?_
  exact t_X12_wouldEat_5 l E c0 s0 _ _ _ _
def F_X12_wouldEat (a0 : Nat) (a1 : Int32) (a2 : Int32) (m : Mm) (o : Prop) : Int32 × Mm × Prop := f_X12_wouldEat_0 a0 a1 a2 m o
theorem T_X12_wouldEat (l : Launch) (E : En) (a0 : Nat) (a1 : Int32) (a2 : Int32) (m : Mm) (o : Prop) : Mt wI l E yX12_wouldEat mi_X12_wouldEat [.ref a0, .int a1, .int a2] m o (F_X12_wouldEat a0 a1 a2 m o) :=
  Mt_I (by decide) rfl rfl rfl (Nat.le_of_ble_eq_true rfl) rfl (.inl rfl) (t_X12_wouldEat_0 l E _ _ _ _ _ _ _)
def f_X12_choice_63 (k7 : Nat → Int32 → Int32 → Int32 → Int32 → Mm → Prop → Int32 × Mm × Prop) (l0 : Nat) (l1 : Int32) (l2 : Int32) (l3 : Int32) (l4 : Int32) (m : Mm) (o : Prop) : Int32 × Mm × Prop := k7 l0 l1 l2 l3 (l4 + 1) m o
set_option maxRecDepth 10000 in
theorem t_X12_choice_63 (l : Launch) (E : En) (c0 s0 : Nat) (k7 : Nat → Int32 → Int32 → Int32 → Int32 → Mm → Prop → Int32 × Mm × Prop) (hk7 : ∀ (l0 : Nat) (l1 : Int32) (l2 : Int32) (l3 : Int32) (l4 : Int32) (m : Mm) (o : Prop), Mh wI l E mi_X12_choice c0 s0 7 [(0, .ref l0), (1, .int l1), (2, .int l2), (3, .int l3), (4, .int l4)] [] m o (k7 l0 l1 l2 l3 l4 m o)) (l0 : Nat) (l1 : Int32) (l2 : Int32) (l3 : Int32) (l4 : Int32) (m : Mm) (o : Prop) : Mh wI l E mi_X12_choice c0 s0 63 [(0, .ref l0), (1, .int l1), (2, .int l2), (3, .int l3), (4, .int l4)] [] m o (f_X12_choice_63 k7 l0 l1 l2 l3 l4 m o) := by
  refine Mh_iinc (v := l4 + 1) (lv' := [(4, .int (l4 + 1)), (0, .ref l0), (1, .int l1), (2, .int l2), (3, .int l3)]) 4 dX12_choice_63 rfl rfl (Nat.le_of_ble_eq_true rfl) rfl ?_
  refine Mh_goto (tgt := 7) dX12_choice_66 (by decide) ?_
  refine Mh_sub (lv' := [(0, .ref l0), (1, .int l1), (2, .int l2), (3, .int l3), (4, .int (l4 + 1))]) [1, 2, 3, 4, 0] rfl ?_
  exact hk7 _ _ _ _ _ _ _
def f_X12_choice_46 (k7 : Nat → Int32 → Int32 → Int32 → Int32 → Mm → Prop → Int32 × Mm × Prop) (l0 : Nat) (l1 : Int32) (l2 : Int32) (l3 : Int32) (l4 : Int32) (y0 : Int32) (m : Mm) (o : Prop) : Int32 × Mm × Prop := if l3 < y0 then (f_X12_choice_63 k7 l0 l1 l4 y0 l4 m o) else (f_X12_choice_63 k7 l0 l1 l2 l3 l4 m o)
set_option maxRecDepth 10000 in
theorem t_X12_choice_46 (l : Launch) (E : En) (c0 s0 : Nat) (k7 : Nat → Int32 → Int32 → Int32 → Int32 → Mm → Prop → Int32 × Mm × Prop) (hk7 : ∀ (l0 : Nat) (l1 : Int32) (l2 : Int32) (l3 : Int32) (l4 : Int32) (m : Mm) (o : Prop), Mh wI l E mi_X12_choice c0 s0 7 [(0, .ref l0), (1, .int l1), (2, .int l2), (3, .int l3), (4, .int l4)] [] m o (k7 l0 l1 l2 l3 l4 m o)) (l0 : Nat) (l1 : Int32) (l2 : Int32) (l3 : Int32) (l4 : Int32) (y0 : Int32) (m : Mm) (o : Prop) : Mh wI l E mi_X12_choice c0 s0 46 [(0, .ref l0), (1, .int l1), (2, .int l2), (3, .int l3), (4, .int l4)] [.int y0] m o (f_X12_choice_46 k7 l0 l1 l2 l3 l4 y0 m o) := by
  refine Mh_istore (lv' := [(5, .int y0), (0, .ref l0), (1, .int l1), (2, .int l2), (3, .int l3), (4, .int l4)]) dX12_choice_46 (Nat.le_of_ble_eq_true rfl) rfl ?_
  refine Mh_iload 0 rfl dX12_choice_48 ?_
  refine Mh_iload_n 4 rfl dX12_choice_50 ?_
  refine Mh_icmp_gt (tgt := 57) dX12_choice_51 (by decide) rfl (fun _ => ?_) (fun _ => ?_)
  · refine Mh_iload 5 rfl dX12_choice_57 ?_
    refine Mh_istore_n (lv' := [(2, .int l4), (5, .int y0), (0, .ref l0), (1, .int l1), (3, .int l3), (4, .int l4)]) dX12_choice_59 (Nat.le_of_ble_eq_true rfl) rfl ?_
    refine Mh_iload 1 rfl dX12_choice_60 ?_
    refine Mh_istore_n (lv' := [(3, .int y0), (2, .int l4), (5, .int y0), (0, .ref l0), (1, .int l1), (4, .int l4)]) dX12_choice_62 (Nat.le_of_ble_eq_true rfl) rfl ?_
    refine Mh_sub (lv' := [(0, .ref l0), (1, .int l1), (2, .int l4), (3, .int y0), (4, .int l4)]) [3, 4, 1, 0, 5] rfl ?_
    exact t_X12_choice_63 l E c0 s0 k7 hk7 _ _ _ _ _ _ _
  · refine Mh_goto (tgt := 63) dX12_choice_54 (by decide) ?_
    refine Mh_sub (lv' := [(0, .ref l0), (1, .int l1), (2, .int l2), (3, .int l3), (4, .int l4)]) [1, 2, 3, 4, 5] rfl ?_
    exact t_X12_choice_63 l E c0 s0 k7 hk7 _ _ _ _ _ _ _
def f_X12_choice_7b (k7 : Nat → Int32 → Int32 → Int32 → Int32 → Mm → Prop → Int32 × Mm × Prop) (l0 : Nat) (l1 : Int32) (l2 : Int32) (l3 : Int32) (l4 : Int32) (m : Mm) (o : Prop) : Int32 × Mm × Prop := if (gI m l0 2) ≤ l4 then (l2, m, (o ∧ gT m l0 = 12)) else (if (gI m (gR m l0 14) (ix l4)) = 0 then (f_X12_choice_63 k7 l0 l1 l2 l3 l4 m (((o ∧ gT m l0 = 12) ∧ (gT m l0 = 12 ∧ gR m l0 14 ≠ 0)) ∧ (gT m (gR m l0 14) = 22 ∧ vp_in l4 (gN m (gR m l0 14))))) else (if (gI m (gR m l0 10) (ix l4)) = 0 then (f_X12_choice_63 k7 l0 l1 l2 l3 l4 m (((((o ∧ gT m l0 = 12) ∧ (gT m l0 = 12 ∧ gR m l0 14 ≠ 0)) ∧ (gT m (gR m l0 14) = 22 ∧ vp_in l4 (gN m (gR m l0 14)))) ∧ (gT m l0 = 12 ∧ gR m l0 10 ≠ 0)) ∧ (gT m (gR m l0 10) = 20 ∧ vp_in l4 (gN m (gR m l0 10))))) else (bnd (F_X12_wouldEat l0 l1 l4 m (((((o ∧ gT m l0 = 12) ∧ (gT m l0 = 12 ∧ gR m l0 14 ≠ 0)) ∧ (gT m (gR m l0 14) = 22 ∧ vp_in l4 (gN m (gR m l0 14)))) ∧ (gT m l0 = 12 ∧ gR m l0 10 ≠ 0)) ∧ (gT m (gR m l0 10) = 20 ∧ vp_in l4 (gN m (gR m l0 10))))) (fun v1 m1 o1 => f_X12_choice_46 k7 l0 l1 l2 l3 l4 v1 m1 o1))))
set_option maxRecDepth 10000 in
theorem t_X12_choice_7b (l : Launch) (E : En) (c0 s0 : Nat) (k7 : Nat → Int32 → Int32 → Int32 → Int32 → Mm → Prop → Int32 × Mm × Prop) (hk7 : ∀ (l0 : Nat) (l1 : Int32) (l2 : Int32) (l3 : Int32) (l4 : Int32) (m : Mm) (o : Prop), Mh wI l E mi_X12_choice c0 s0 7 [(0, .ref l0), (1, .int l1), (2, .int l2), (3, .int l3), (4, .int l4)] [] m o (k7 l0 l1 l2 l3 l4 m o)) (l0 : Nat) (l1 : Int32) (l2 : Int32) (l3 : Int32) (l4 : Int32) (m : Mm) (o : Prop) : Mh wI l E mi_X12_choice c0 s0 7 [(0, .ref l0), (1, .int l1), (2, .int l2), (3, .int l3), (4, .int l4)] [] m o (f_X12_choice_7b k7 l0 l1 l2 l3 l4 m o) := by
  refine Mh_iload 4 rfl dX12_choice_7 ?_
  refine Mh_aload_n 0 rfl dX12_choice_9 ?_
  refine Mh_gI fd_11_2 fl_RX12_192 dX12_choice_10 ?_
  refine Mh_icmp_ge (tgt := 69) dX12_choice_13 (by decide) rfl (fun _ => ?_) (fun _ => ?_)
  · refine Mh_iload_n 2 rfl dX12_choice_69 ?_
    exact Mh_ret dX12_choice_70 rfl (fun _ => rfl) rfl
  · refine Mh_aload_n 0 rfl dX12_choice_16 ?_
    refine Mh_gR fd_11_14 fl_RX12_39 dX12_choice_17 ?_
    refine Mh_iload 4 rfl dX12_choice_20 ?_
    refine Mh_zal dX12_choice_22 ?_
    refine Mh_if_eq (tgt := 63) dX12_choice_23 (by decide) rfl (fun _ => ?_) (fun _ => ?_)
    · exact t_X12_choice_63 l E c0 s0 k7 hk7 _ _ _ _ _ _ _
    · refine Mh_aload_n 0 rfl dX12_choice_26 ?_
      refine Mh_gR fd_11_10 fl_RX12_27 dX12_choice_27 ?_
      refine Mh_iload 4 rfl dX12_choice_30 ?_
      refine Mh_ial dX12_choice_32 ?_
      refine Mh_if_ne (tgt := 39) dX12_choice_33 (by decide) rfl (fun _ => ?_) (fun _ => ?_)
      · refine Mh_aload_n 0 rfl dX12_choice_39 ?_
        refine Mh_iload_n 1 rfl dX12_choice_40 ?_
        refine Mh_iload 4 rfl dX12_choice_41 ?_
        refine Mh_cvI (N := mi_X12_wouldEat) (q := l0) (ci := 11) (as := [.int l1, .int l4]) (st := []) (fun h => ⟨h, (fun h => h.1.1.1.1.2) h⟩) cg_yX12_wouldEat (by decide) rfl rfl ml_RX12_384 iv_yX12_wouldEat pd_yX12_wouldEat rfl (by decide) (Nat.le_of_ble_eq_true rfl) rfl dX12_choice_43 (T_X12_wouldEat l E _ _ _ _ _) rfl ?_
        exact t_X12_choice_46 l E c0 s0 k7 hk7 _ _ _ _ _ _ _ _
      · refine Mh_goto (tgt := 63) dX12_choice_36 (by decide) ?_
        exact t_X12_choice_63 l E c0 s0 k7 hk7 _ _ _ _ _ _ _
def f_X12_choice_7 : Nat → Nat → Int32 → Int32 → Int32 → Int32 → Mm → Prop → Int32 × Mm × Prop
  | 0, _, _, _, _, _, m, _ => (0, m, False)
  | n + 1, l0, l1, l2, l3, l4, m, o => f_X12_choice_7b (f_X12_choice_7 n) l0 l1 l2 l3 l4 m o
theorem t_X12_choice_7 (l : Launch) (E : En) (c0 s0 : Nat) : ∀ (n : Nat) (l0 : Nat) (l1 : Int32) (l2 : Int32) (l3 : Int32) (l4 : Int32) (m : Mm) (o : Prop), Mh wI l E mi_X12_choice c0 s0 7 [(0, .ref l0), (1, .int l1), (2, .int l2), (3, .int l3), (4, .int l4)] [] m o (f_X12_choice_7 n l0 l1 l2 l3 l4 m o)
  | 0, _, _, _, _, _, _, _ => Mh_out rfl
  | n + 1, l0, l1, l2, l3, l4, m, o => t_X12_choice_7b l E c0 s0 (f_X12_choice_7 n) (t_X12_choice_7 l E c0 s0 n) l0 l1 l2 l3 l4 m o
def f_X12_choice_0 (l0 : Nat) (l1 : Int32) (m : Mm) (o : Prop) : Int32 × Mm × Prop := f_X12_choice_7 1000 l0 l1 (-1 : Int32) (0 : Int32) (0 : Int32) m o
set_option maxRecDepth 10000 in
theorem t_X12_choice_0 (l : Launch) (E : En) (c0 s0 : Nat) (l0 : Nat) (l1 : Int32) (m : Mm) (o : Prop) : Mh wI l E mi_X12_choice c0 s0 0 [(0, .ref l0), (1, .int l1)] [] m o (f_X12_choice_0 l0 l1 m o) := by
  refine Mh_iconst (v := (-1)) dX12_choice_0 (by decide) ?_
  refine Mh_istore_n (lv' := [(2, .int (-1 : Int32)), (0, .ref l0), (1, .int l1)]) dX12_choice_1 (Nat.le_of_ble_eq_true rfl) rfl ?_
  refine Mh_iconst (v := 0) dX12_choice_2 (by decide) ?_
  refine Mh_istore_n (lv' := [(3, .int (0 : Int32)), (2, .int (-1 : Int32)), (0, .ref l0), (1, .int l1)]) dX12_choice_3 (Nat.le_of_ble_eq_true rfl) rfl ?_
  refine Mh_iconst (v := 0) dX12_choice_4 (by decide) ?_
  refine Mh_istore (lv' := [(4, .int (0 : Int32)), (3, .int (0 : Int32)), (2, .int (-1 : Int32)), (0, .ref l0), (1, .int l1)]) dX12_choice_5 (Nat.le_of_ble_eq_true rfl) rfl ?_
  refine Mh_sub (lv' := [(0, .ref l0), (1, .int l1), (2, .int (-1 : Int32)), (3, .int (0 : Int32)), (4, .int (0 : Int32))]) [3, 4, 2, 1, 0] rfl ?_
  exact t_X12_choice_7 l E c0 s0 _ _ _ _ _ _ _ _
def F_X12_choice (a0 : Nat) (a1 : Int32) (m : Mm) (o : Prop) : Int32 × Mm × Prop := f_X12_choice_0 a0 a1 m o
theorem T_X12_choice (l : Launch) (E : En) (a0 : Nat) (a1 : Int32) (m : Mm) (o : Prop) : Mt wI l E yX12_choice mi_X12_choice [.ref a0, .int a1] m o (F_X12_choice a0 a1 m o) :=
  Mt_I (by decide) rfl rfl rfl (Nat.le_of_ble_eq_true rfl) rfl (.inl rfl) (t_X12_choice_0 l E _ _ _ _ _ _)
