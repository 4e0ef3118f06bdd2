def f_X12_taste_29 (m : Mm) (o : Prop) : Int32 × Mm × Prop := ((0 : Int32), m, o)
set_option maxRecDepth 10000 in
theorem t_X12_taste_29 (l : Launch) (E : En) (c0 s0 : Nat) (m : Mm) (o : Prop) : Mh wI l E mi_X12_taste c0 s0 29 [] [] m o (f_X12_taste_29  m o) := by
  refine Mh_iconst (v := 0) dX12_taste_29 (by decide) ?_
  exact Mh_ret dX12_taste_30 rfl (fun _ => rk0Z) rfl
def f_X12_taste_42 (m : Mm) (o : Prop) : Int32 × Mm × Prop := ((1 : Int32), m, o)
set_option maxRecDepth 10000 in
theorem t_X12_taste_42 (l : Launch) (E : En) (c0 s0 : Nat) (m : Mm) (o : Prop) : Mh wI l E mi_X12_taste c0 s0 42 [] [] m o (f_X12_taste_42  m o) := by
  refine Mh_iconst (v := 1) dX12_taste_42 (by decide) ?_
  exact Mh_ret dX12_taste_43 rfl (fun _ => rk1Z) rfl
def f_X12_taste_26 (l0 : Nat) (l1 : Int32) (l2 : Int32) (l3 : Int32) (y0 : Int32) (m : Mm) (o : Prop) : Int32 × Mm × Prop := if y0 = 0 then (f_X12_taste_29  m o) else (f_X12_taste_42  (sI m (gR m l0 19) (ix (((5 : Int32) * l1) + l2)) l3) ((o ∧ (gT m l0 = 12 ∧ gR m l0 19 ≠ 0)) ∧ (gT m (gR m l0 19) = 20 ∧ vp_in (((5 : Int32) * l1) + l2) (gN m (gR m l0 19)))))
set_option maxRecDepth 10000 in
theorem t_X12_taste_26 (l : Launch) (E : En) (c0 s0 : Nat) (l0 : Nat) (l1 : Int32) (l2 : Int32) (l3 : Int32) (y0 : Int32) (m : Mm) (o : Prop) : Mh wI l E mi_X12_taste c0 s0 26 [(0, .ref l0), (1, .int l1), (2, .int l2), (3, .int l3)] [.int y0] m o (f_X12_taste_26 l0 l1 l2 l3 y0 m o) := by
  refine Mh_if_ne (tgt := 31) dX12_taste_26 (by decide) rfl (fun _ => ?_) (fun _ => ?_)
  · refine Mh_aload_n 0 rfl dX12_taste_31 ?_
    refine Mh_gR fd_11_19 fl_RX12_55 dX12_taste_32 ?_
    refine Mh_iconst (v := 5) dX12_taste_35 (by decide) ?_
    refine Mh_iload_n 1 rfl dX12_taste_36 ?_
    refine Mh_imul dX12_taste_37 ?_
    refine Mh_iload_n 2 rfl dX12_taste_38 ?_
    refine Mh_iadd dX12_taste_39 ?_
    refine Mh_iload_n 3 rfl dX12_taste_40 ?_
    refine Mh_ias dX12_taste_41 ?_
    refine Mh_sub (lv' := []) [] rfl ?_
    exact t_X12_taste_42 l E c0 s0  _ _
  · refine Mh_sub (lv' := []) [] rfl ?_
    exact t_X12_taste_29 l E c0 s0  _ _
def f_X12_taste_12 (l0 : Nat) (l1 : Int32) (l2 : Int32) (l3 : Int32) (y0 : Int32) (m : Mm) (o : Prop) : Int32 × Mm × Prop := if y0 = 0 then (f_X12_taste_29  m o) else (bnd (F_X12_lies (Int32.toInt64 l3) (-9 : Int64) (9 : Int64) m o) (fun v1 m1 o1 => f_X12_taste_26 l0 l1 l2 l3 v1 m1 o1))
set_option maxRecDepth 10000 in
theorem t_X12_taste_12 (l : Launch) (E : En) (c0 s0 : Nat) (l0 : Nat) (l1 : Int32) (l2 : Int32) (l3 : Int32) (y0 : Int32) (m : Mm) (o : Prop) : Mh wI l E mi_X12_taste c0 s0 12 [(0, .ref l0), (1, .int l1), (2, .int l2), (3, .int l3)] [.int y0] m o (f_X12_taste_12 l0 l1 l2 l3 y0 m o) := by
  refine Mh_if_eq (tgt := 29) dX12_taste_12 (by decide) rfl (fun _ => ?_) (fun _ => ?_)
  · refine Mh_sub (lv' := []) [] rfl ?_
    exact t_X12_taste_29 l E c0 s0  _ _
  · refine Mh_iload_n 3 rfl dX12_taste_15 ?_
    refine Mh_i2l dX12_taste_16 ?_
    refine Mh_ldc2 (v := (-9)) gl_RX12_220 dX12_taste_17 ?_
    refine Mh_ldc2 (v := 9) gl_RX12_186 dX12_taste_20 ?_
    refine Mh_csI (N := mi_X12_lies) (as := [.long (Int32.toInt64 l3), .long (-9 : Int64), .long (9 : Int64)]) (st := []) cg_yX12_lies (.inl ml_RX12_188) sv_yX12_lies pd_yX12_lies rfl (by decide) (Nat.le_of_ble_eq_true rfl) rfl dX12_taste_23 (T_X12_lies l E _ _ _ _ _) rfl ?_
    exact t_X12_taste_26 l E c0 s0 _ _ _ _ _ _ _
def f_X12_taste_5 (l0 : Nat) (l1 : Int32) (l2 : Int32) (l3 : Int32) (y0 : Int32) (m : Mm) (o : Prop) : Int32 × Mm × Prop := if y0 = 0 then (f_X12_taste_29  m o) else (bnd (F_X12_isColour l2 m o) (fun v1 m1 o1 => f_X12_taste_12 l0 l1 l2 l3 v1 m1 o1))
set_option maxRecDepth 10000 in
theorem t_X12_taste_5 (l : Launch) (E : En) (c0 s0 : Nat) (l0 : Nat) (l1 : Int32) (l2 : Int32) (l3 : Int32) (y0 : Int32) (m : Mm) (o : Prop) : Mh wI l E mi_X12_taste c0 s0 5 [(0, .ref l0), (1, .int l1), (2, .int l2), (3, .int l3)] [.int y0] m o (f_X12_taste_5 l0 l1 l2 l3 y0 m o) := by
  refine Mh_if_eq (tgt := 29) dX12_taste_5 (by decide) rfl (fun _ => ?_) (fun _ => ?_)
  · refine Mh_sub (lv' := []) [] rfl ?_
    exact t_X12_taste_29 l E c0 s0  _ _
  · refine Mh_iload_n 2 rfl dX12_taste_8 ?_
    refine Mh_csI (N := mi_X12_isColour) (as := [.int l2]) (st := []) cg_yX12_isColour (.inl ml_RX12_209) sv_yX12_isColour pd_yX12_isColour rfl (by decide) (Nat.le_of_ble_eq_true rfl) rfl dX12_taste_9 (T_X12_isColour l E _ _ _) rfl ?_
    exact t_X12_taste_12 l E c0 s0 _ _ _ _ _ _ _
def f_X12_taste_0 (l0 : Nat) (l1 : Int32) (l2 : Int32) (l3 : Int32) (m : Mm) (o : Prop) : Int32 × Mm × Prop := bnd (F_X12_isCow l0 l1 m (o ∧ gT m l0 = 12)) (fun v1 m1 o1 => f_X12_taste_5 l0 l1 l2 l3 v1 m1 o1)
set_option maxRecDepth 10000 in
theorem t_X12_taste_0 (l : Launch) (E : En) (c0 s0 : Nat) (l0 : Nat) (l1 : Int32) (l2 : Int32) (l3 : Int32) (m : Mm) (o : Prop) : Mh wI l E mi_X12_taste c0 s0 0 [(0, .ref l0), (1, .int l1), (2, .int l2), (3, .int l3)] [] m o (f_X12_taste_0 l0 l1 l2 l3 m o) := by
  refine Mh_aload_n 0 rfl dX12_taste_0 ?_
  refine Mh_iload_n 1 rfl dX12_taste_1 ?_
  refine Mh_cvI (N := mi_X12_isCow) (q := l0) (ci := 11) (as := [.int l1]) (st := []) (id) cg_yX12_isCow (by decide) rfl rfl ml_RX12_217 iv_yX12_isCow pd_yX12_isCow rfl (by decide) (Nat.le_of_ble_eq_true rfl) rfl dX12_taste_2 (T_X12_isCow l E _ _ _ _) rfl ?_
  exact t_X12_taste_5 l E c0 s0 _ _ _ _ _ _ _
def F_X12_taste (a0 : Nat) (a1 : Int32) (a2 : Int32) (a3 : Int32) (m : Mm) (o : Prop) : Int32 × Mm × Prop := f_X12_taste_0 a0 a1 a2 a3 m o
theorem T_X12_taste (l : Launch) (E : En) (a0 : Nat) (a1 : Int32) (a2 : Int32) (a3 : Int32) (m : Mm) (o : Prop) : Mt wI l E yX12_taste mi_X12_taste [.ref a0, .int a1, .int a2, .int a3] m o (F_X12_taste a0 a1 a2 a3 m o) :=
  Mt_I (by decide) rfl rfl rfl (Nat.le_of_ble_eq_true rfl) rfl (.inr (.inl rfl)) (t_X12_taste_0 l E _ _ _ _ _ _ _ _)
def f_X12_undo_14 (m : Mm) (o : Prop) : Int32 × Mm × Prop := ((1 : Int32), m, o)
set_option maxRecDepth 10000 in
theorem t_X12_undo_14 (l : Launch) (E : En) (c0 s0 : Nat) (m : Mm) (o : Prop) : Mh wI l E mi_X12_undo c0 s0 14 [] [] m o (f_X12_undo_14  m o) := by
  refine Mh_iconst (v := 1) dX12_undo_14 (by decide) ?_
  exact Mh_ret dX12_undo_15 rfl (fun _ => rk1Z) rfl
def f_X12_undo_0 (l0 : Nat) (m : Mm) (o : Prop) : Int32 × Mm × Prop := if (gI m l0 77) = 0 then ((0 : Int32), m, (o ∧ gT m l0 = 12)) else (bnd (F_X12_putsBack l0 (1 : Int32) m (o ∧ gT m l0 = 12)) (fun _ m1 o1 => f_X12_undo_14  m1 o1))
set_option maxRecDepth 10000 in
theorem t_X12_undo_0 (l : Launch) (E : En) (c0 s0 : Nat) (l0 : Nat) (m : Mm) (o : Prop) : Mh wI l E mi_X12_undo c0 s0 0 [(0, .ref l0)] [] m o (f_X12_undo_0 l0 m o) := by
  refine Mh_aload_n 0 rfl dX12_undo_0 ?_
  refine Mh_gI fd_11_77 fl_RX12_493 dX12_undo_1 ?_
  refine Mh_if_ne (tgt := 9) dX12_undo_4 (by decide) rfl (fun _ => ?_) (fun _ => ?_)
  · refine Mh_aload_n 0 rfl dX12_undo_9 ?_
    refine Mh_iconst (v := 1) dX12_undo_10 (by decide) ?_
    refine Mh_cvU (N := mi_X12_putsBack) (q := l0) (ci := 11) (as := [.int (1 : Int32)]) (st := []) (fun h => ⟨h, (fun h => h.2) h⟩) cg_yX12_putsBack (by decide) rfl rfl ml_RX12_420 iv_yX12_putsBack pd_yX12_putsBack rfl (by decide) (Nat.le_of_ble_eq_true rfl) rfl dX12_undo_11 (T_X12_putsBack l E _ _ _ _) rfl ?_
    refine Mh_sub (lv' := []) [] rfl ?_
    exact t_X12_undo_14 l E c0 s0  _ _
  · refine Mh_iconst (v := 0) dX12_undo_7 (by decide) ?_
    exact Mh_ret dX12_undo_8 rfl (fun _ => rk0Z) rfl
def F_X12_undo (a0 : Nat) (m : Mm) (o : Prop) : Int32 × Mm × Prop := f_X12_undo_0 a0 m o
theorem T_X12_undo (l : Launch) (E : En) (a0 : Nat) (m : Mm) (o : Prop) : Mt wI l E yX12_undo mi_X12_undo [.ref a0] m o (F_X12_undo a0 m o) :=
  Mt_I (by decide) rfl rfl rfl (Nat.le_of_ble_eq_true rfl) rfl (.inr (.inl rfl)) (t_X12_undo_0 l E _ _ _ _ _)
def f_X12_votes_17 (y0 : Int32) (m : Mm) (o : Prop) : Int32 × Mm × Prop := (y0, m, o)
set_option maxRecDepth 10000 in
theorem t_X12_votes_17 (l : Launch) (E : En) (c0 s0 : Nat) (y0 : Int32) (m : Mm) (o : Prop) : Mh wI l E mi_X12_votes c0 s0 17 [] [.int y0] m o (f_X12_votes_17 y0 m o) := by
  exact Mh_ret dX12_votes_17 rfl (fun _ => rfl) rfl
def f_X12_votes_4 (l0 : Nat) (l1 : Int32) (y0 : Int32) (m : Mm) (o : Prop) : Int32 × Mm × Prop := if y0 = 0 then (f_X12_votes_17 (-1 : Int32) m o) else (f_X12_votes_17 (gI m (gR m l0 20) (ix l1)) m ((o ∧ (gT m l0 = 12 ∧ gR m l0 20 ≠ 0)) ∧ (gT m (gR m l0 20) = 20 ∧ vp_in l1 (gN m (gR m l0 20)))))
set_option maxRecDepth 10000 in
theorem t_X12_votes_4 (l : Launch) (E : En) (c0 s0 : Nat) (l0 : Nat) (l1 : Int32) (y0 : Int32) (m : Mm) (o : Prop) : Mh wI l E mi_X12_votes c0 s0 4 [(0, .ref l0), (1, .int l1)] [.int y0] m o (f_X12_votes_4 l0 l1 y0 m o) := by
  refine Mh_if_eq (tgt := 16) dX12_votes_4 (by decide) rfl (fun _ => ?_) (fun _ => ?_)
  · refine Mh_iconst (v := (-1)) dX12_votes_16 (by decide) ?_
    refine Mh_sub (lv' := []) [] rfl ?_
    exact t_X12_votes_17 l E c0 s0 _ _ _
  · refine Mh_aload_n 0 rfl dX12_votes_7 ?_
    refine Mh_gR fd_11_20 fl_RX12_58 dX12_votes_8 ?_
    refine Mh_iload_n 1 rfl dX12_votes_11 ?_
    refine Mh_ial dX12_votes_12 ?_
    refine Mh_goto (tgt := 17) dX12_votes_13 (by decide) ?_
    refine Mh_sub (lv' := []) [] rfl ?_
    exact t_X12_votes_17 l E c0 s0 _ _ _
def f_X12_votes_0 (l0 : Nat) (l1 : Int32) (m : Mm) (o : Prop) : Int32 × Mm × Prop := bnd (F_X12_isColour l1 m o) (fun v1 m1 o1 => f_X12_votes_4 l0 l1 v1 m1 o1)
set_option maxRecDepth 10000 in
theorem t_X12_votes_0 (l : Launch) (E : En) (c0 s0 : Nat) (l0 : Nat) (l1 : Int32) (m : Mm) (o : Prop) : Mh wI l E mi_X12_votes c0 s0 0 [(0, .ref l0), (1, .int l1)] [] m o (f_X12_votes_0 l0 l1 m o) := by
  refine Mh_iload_n 1 rfl dX12_votes_0 ?_
  refine Mh_csI (N := mi_X12_isColour) (as := [.int l1]) (st := []) cg_yX12_isColour (.inl ml_RX12_209) sv_yX12_isColour pd_yX12_isColour rfl (by decide) (Nat.le_of_ble_eq_true rfl) rfl dX12_votes_1 (T_X12_isColour l E _ _ _) rfl ?_
  exact t_X12_votes_4 l E c0 s0 _ _ _ _ _
def F_X12_votes (a0 : Nat) (a1 : Int32) (m : Mm) (o : Prop) : Int32 × Mm × Prop := f_X12_votes_0 a0 a1 m o
theorem T_X12_votes (l : Launch) (E : En) (a0 : Nat) (a1 : Int32) (m : Mm) (o : Prop) : Mt wI l E yX12_votes mi_X12_votes [.ref a0, .int a1] m o (F_X12_votes a0 a1 m o) :=
  Mt_I (by decide) rfl rfl rfl (Nat.le_of_ble_eq_true rfl) rfl (.inl rfl) (t_X12_votes_0 l E _ _ _ _ _ _)
def f_X12_would_26 (y0 : Int32) (m : Mm) (o : Prop) : Int32 × Mm × Prop := (y0, m, o)
set_option maxRecDepth 10000 in
theorem t_X12_would_26 (l : Launch) (E : En) (c0 s0 : Nat) (y0 : Int32) (m : Mm) (o : Prop) : Mh wI l E mi_X12_would c0 s0 26 [] [.int y0] m o (f_X12_would_26 y0 m o) := by
  exact Mh_ret dX12_would_26 rfl (fun _ => rfl) rfl
def f_X12_would_22 (y0 : Int32) (m : Mm) (o : Prop) : Int32 × Mm × Prop := f_X12_would_26 y0 m o
set_option maxRecDepth 10000 in
theorem t_X12_would_22 (l : Launch) (E : En) (c0 s0 : Nat) (y0 : Int32) (m : Mm) (o : Prop) : Mh wI l E mi_X12_would c0 s0 22 [] [.int y0] m o (f_X12_would_22 y0 m o) := by
  refine Mh_goto (tgt := 26) dX12_would_22 (by decide) ?_
  exact t_X12_would_26 l E c0 s0 _ _ _
def f_X12_would_25 (m : Mm) (o : Prop) : Int32 × Mm × Prop := f_X12_would_26 (-1 : Int32) m o
set_option maxRecDepth 10000 in
theorem t_X12_would_25 (l : Launch) (E : En) (c0 s0 : Nat) (m : Mm) (o : Prop) : Mh wI l E mi_X12_would c0 s0 25 [] [] m o (f_X12_would_25  m o) := by
  refine Mh_iconst (v := (-1)) dX12_would_25 (by decide) ?_
  exact t_X12_would_26 l E c0 s0 _ _ _
def f_X12_would_13 (l0 : Nat) (l1 : Int32) (l2 : Int32) (y0 : Int32) (m : Mm) (o : Prop) : Int32 × Mm × Prop := if y0 = 0 then (f_X12_would_25  m o) else (bnd (F_X12_wouldEat l0 l1 l2 m (o ∧ gT m l0 = 12)) (fun v1 m1 o1 => f_X12_would_22 v1 m1 o1))
set_option maxRecDepth 10000 in
theorem t_X12_would_13 (l : Launch) (E : En) (c0 s0 : Nat) (l0 : Nat) (l1 : Int32) (l2 : Int32) (y0 : Int32) (m : Mm) (o : Prop) : Mh wI l E mi_X12_would c0 s0 13 [(0, .ref l0), (1, .int l1), (2, .int l2)] [.int y0] m o (f_X12_would_13 l0 l1 l2 y0 m o) := by
  refine Mh_if_eq (tgt := 25) dX12_would_13 (by decide) rfl (fun _ => ?_) (fun _ => ?_)
  · refine Mh_sub (lv' := []) [] rfl ?_
    exact t_X12_would_25 l E c0 s0  _ _
  · refine Mh_aload_n 0 rfl dX12_would_16 ?_
    refine Mh_iload_n 1 rfl dX12_would_17 ?_
    refine Mh_iload_n 2 rfl dX12_would_18 ?_
    refine Mh_cvI (N := mi_X12_wouldEat) (q := l0) (ci := 11) (as := [.int l1, .int l2]) (st := []) (id) cg_yX12_wouldEat (by decide) rfl rfl ml_RX12_384 iv_yX12_wouldEat pd_yX12_wouldEat rfl (by decide) (Nat.le_of_ble_eq_true rfl) rfl dX12_would_19 (T_X12_wouldEat l E _ _ _ _ _) rfl ?_
    refine Mh_sub (lv' := []) [] rfl ?_
    exact t_X12_would_22 l E c0 s0 _ _ _
def f_X12_would_5 (l0 : Nat) (l1 : Int32) (l2 : Int32) (y0 : Int32) (m : Mm) (o : Prop) : Int32 × Mm × Prop := if y0 = 0 then (f_X12_would_25  m o) else (bnd (F_X12_isThere l0 l2 m (o ∧ gT m l0 = 12)) (fun v1 m1 o1 => f_X12_would_13 l0 l1 l2 v1 m1 o1))
set_option maxRecDepth 10000 in
theorem t_X12_would_5 (l : Launch) (E : En) (c0 s0 : Nat) (l0 : Nat) (l1 : Int32) (l2 : Int32) (y0 : Int32) (m : Mm) (o : Prop) : Mh wI l E mi_X12_would c0 s0 5 [(0, .ref l0), (1, .int l1), (2, .int l2)] [.int y0] m o (f_X12_would_5 l0 l1 l2 y0 m o) := by
  refine Mh_if_eq (tgt := 25) dX12_would_5 (by decide) rfl (fun _ => ?_) (fun _ => ?_)
  · refine Mh_sub (lv' := []) [] rfl ?_
    exact t_X12_would_25 l E c0 s0  _ _
  · refine Mh_aload_n 0 rfl dX12_would_8 ?_
    refine Mh_iload_n 2 rfl dX12_would_9 ?_
    refine Mh_cvI (N := mi_X12_isThere) (q := l0) (ci := 11) (as := [.int l2]) (st := []) (id) cg_yX12_isThere (by decide) rfl rfl ml_RX12_222 iv_yX12_isThere pd_yX12_isThere rfl (by decide) (Nat.le_of_ble_eq_true rfl) rfl dX12_would_10 (T_X12_isThere l E _ _ _ _) rfl ?_
    exact t_X12_would_13 l E c0 s0 _ _ _ _ _ _
def f_X12_would_0 (l0 : Nat) (l1 : Int32) (l2 : Int32) (m : Mm) (o : Prop) : Int32 × Mm × Prop := bnd (F_X12_isCow l0 l1 m (o ∧ gT m l0 = 12)) (fun v1 m1 o1 => f_X12_would_5 l0 l1 l2 v1 m1 o1)
set_option maxRecDepth 10000 in
theorem t_X12_would_0 (l : Launch) (E : En) (c0 s0 : Nat) (l0 : Nat) (l1 : Int32) (l2 : Int32) (m : Mm) (o : Prop) : Mh wI l E mi_X12_would c0 s0 0 [(0, .ref l0), (1, .int l1), (2, .int l2)] [] m o (f_X12_would_0 l0 l1 l2 m o) := by
  refine Mh_aload_n 0 rfl dX12_would_0 ?_
  refine Mh_iload_n 1 rfl dX12_would_1 ?_
  refine Mh_cvI (N := mi_X12_isCow) (q := l0) (ci := 11) (as := [.int l1]) (st := []) (id) cg_yX12_isCow (by decide) rfl rfl ml_RX12_217 iv_yX12_isCow pd_yX12_isCow rfl (by decide) (Nat.le_of_ble_eq_true rfl) rfl dX12_would_2 (T_X12_isCow l E _ _ _ _) rfl ?_
  exact t_X12_would_5 l E c0 s0 _ _ _ _ _ _
def F_X12_would (a0 : Nat) (a1 : Int32) (a2 : Int32) (m : Mm) (o : Prop) : Int32 × Mm × Prop := f_X12_would_0 a0 a1 a2 m o
theorem T_X12_would (l : Launch) (E : En) (a0 : Nat) (a1 : Int32) (a2 : Int32) (m : Mm) (o : Prop) : Mt wI l E yX12_would mi_X12_would [.ref a0, .int a1, .int a2] m o (F_X12_would a0 a1 a2 m o) :=
  Mt_I (by decide) rfl rfl rfl (Nat.le_of_ble_eq_true rfl) rfl (.inl rfl) (t_X12_would_0 l E _ _ _ _ _ _ _)
