def f_J0_isLatin1_aae02_18 (y0 : Int32) (m : Mm) (o : Prop) : Int32 × Mm × Prop := (y0, m, o ∧ (y0 = 0 ∨ y0 = 1))
set_option maxRecDepth 10000 in
theorem t_J0_isLatin1_aae02_18 (l : Launch) (E : En) (c0 s0 : Nat) (y0 : Int32) (m : Mm) (o : Prop) : Mh wI l E mi_J0_isLatin1_aae02 c0 s0 18 [] [.int y0] m o (f_J0_isLatin1_aae02_18 y0 m o) := by
  exact Mh_retZ dJ0_isLatin1_aae02_18 (.inl rfl) rfl
def f_J0_isLatin1_aae02_17 (m : Mm) (o : Prop) : Int32 × Mm × Prop := f_J0_isLatin1_aae02_18 (0 : Int32) m o
set_option maxRecDepth 10000 in
theorem t_J0_isLatin1_aae02_17 (l : Launch) (E : En) (c0 s0 : Nat) (m : Mm) (o : Prop) : Mh wI l E mi_J0_isLatin1_aae02 c0 s0 17 [] [] m o (f_J0_isLatin1_aae02_17  m o) := by
  refine Mh_iconst (v := 0) dJ0_isLatin1_aae02_17 (by decide) ?_
  exact t_J0_isLatin1_aae02_18 l E c0 s0 _ _ _
def f_J0_isLatin1_aae02_0 (m : Mm) (o : Prop) : Int32 × Mm × Prop := if (1 : Int32) = 0 then (f_J0_isLatin1_aae02_17  m o) else (if (0 : Int32) = 0 then (f_J0_isLatin1_aae02_18 (1 : Int32) m o) else (f_J0_isLatin1_aae02_17  m o))
set_option maxRecDepth 10000 in
theorem t_J0_isLatin1_aae02_0 (l : Launch) (E : En) (c0 s0 : Nat) (m : Mm) (o : Prop) : Mh wI l E mi_J0_isLatin1_aae02 c0 s0 0 [(0, .null)] [] m o (f_J0_isLatin1_aae02_0  m o) := by
  refine Mh_cpS sl_RJ0_38 dJ0_isLatin1_aae02_0 ?_
  refine Mh_if_eq (tgt := 17) dJ0_isLatin1_aae02_3 (by decide) rfl (fun _ => ?_) (fun _ => ?_)
  · refine Mh_sub (lv' := []) [] rfl ?_
    exact t_J0_isLatin1_aae02_17 l E c0 s0  _ _
  · refine Mh_loadS_n 0 (.inl rfl) rfl dJ0_isLatin1_aae02_6 ?_
    refine Mh_coS sl_RJ0_15 dJ0_isLatin1_aae02_7 ?_
    refine Mh_if_ne (tgt := 17) dJ0_isLatin1_aae02_10 (by decide) rfl (fun _ => ?_) (fun _ => ?_)
    · refine Mh_sub (lv' := []) [] rfl ?_
      exact t_J0_isLatin1_aae02_17 l E c0 s0  _ _
    · refine Mh_iconst (v := 1) dJ0_isLatin1_aae02_13 (by decide) ?_
      refine Mh_goto (tgt := 18) dJ0_isLatin1_aae02_14 (by decide) ?_
      refine Mh_sub (lv' := []) [] rfl ?_
      exact t_J0_isLatin1_aae02_18 l E c0 s0 _ _ _
def F_J0_isLatin1_aae02 (m : Mm) (o : Prop) : Int32 × Mm × Prop := f_J0_isLatin1_aae02_0  m o
theorem T_J0_isLatin1_aae02 (l : Launch) (E : En) (m : Mm) (o : Prop) : Mt wI l E yJ0_isLatin1_aae02 mi_J0_isLatin1_aae02 [.null] m o (F_J0_isLatin1_aae02  m o) :=
  Mt_I (by decide) rfl rfl rfl (Nat.le_of_ble_eq_true rfl) rfl (.inr (.inl rfl)) (t_J0_isLatin1_aae02_0 l E _ _  _ _)
def f_J0_coder_7d493_14 (y0 : Int32) (m : Mm) (o : Prop) : Int32 × Mm × Prop := (y0, m, o ∧ (y0 = 0 ∨ y0 = 1))
set_option maxRecDepth 10000 in
theorem t_J0_coder_7d493_14 (l : Launch) (E : En) (c0 s0 : Nat) (y0 : Int32) (m : Mm) (o : Prop) : Mh wI l E mi_J0_coder_7d493 c0 s0 14 [] [.int y0] m o (f_J0_coder_7d493_14 y0 m o) := by
  exact Mh_retZ dJ0_coder_7d493_14 (.inr rfl) rfl
def f_J0_coder_7d493_0 (m : Mm) (o : Prop) : Int32 × Mm × Prop := if (1 : Int32) = 0 then (f_J0_coder_7d493_14 (1 : Int32) m o) else (f_J0_coder_7d493_14 (0 : Int32) m o)
set_option maxRecDepth 10000 in
theorem t_J0_coder_7d493_0 (l : Launch) (E : En) (c0 s0 : Nat) (m : Mm) (o : Prop) : Mh wI l E mi_J0_coder_7d493 c0 s0 0 [(0, .null)] [] m o (f_J0_coder_7d493_0  m o) := by
  refine Mh_cpS sl_RJ0_38 dJ0_coder_7d493_0 ?_
  refine Mh_if_eq (tgt := 13) dJ0_coder_7d493_3 (by decide) rfl (fun _ => ?_) (fun _ => ?_)
  · refine Mh_iconst (v := 1) dJ0_coder_7d493_13 (by decide) ?_
    refine Mh_sub (lv' := []) [] rfl ?_
    exact t_J0_coder_7d493_14 l E c0 s0 _ _ _
  · refine Mh_loadS_n 0 (.inl rfl) rfl dJ0_coder_7d493_6 ?_
    refine Mh_coS sl_RJ0_15 dJ0_coder_7d493_7 ?_
    refine Mh_goto (tgt := 14) dJ0_coder_7d493_10 (by decide) ?_
    refine Mh_sub (lv' := []) [] rfl ?_
    exact t_J0_coder_7d493_14 l E c0 s0 _ _ _
def F_J0_coder_7d493 (m : Mm) (o : Prop) : Int32 × Mm × Prop := f_J0_coder_7d493_0  m o
theorem T_J0_coder_7d493 (l : Launch) (E : En) (m : Mm) (o : Prop) : Mt wI l E yJ0_coder_7d493 mi_J0_coder_7d493 [.null] m o (F_J0_coder_7d493  m o) :=
  Mt_I (by decide) rfl rfl rfl (Nat.le_of_ble_eq_true rfl) rfl (.inr (.inr rfl)) (t_J0_coder_7d493_0 l E _ _  _ _)
def f_J0_length_8abf5_9 (y1 : Int32) (y0 : Int32) (m : Mm) (o : Prop) : Int32 × Mm × Prop := (y0 >>> (y1 &&& 31), m, o)
set_option maxRecDepth 10000 in
theorem t_J0_length_8abf5_9 (l : Launch) (E : En) (c0 s0 : Nat) (y1 : Int32) (y0 : Int32) (m : Mm) (o : Prop) : Mh wI l E mi_J0_length_8abf5 c0 s0 9 [] [.int y1, .int y0] m o (f_J0_length_8abf5_9 y1 y0 m o) := by
  refine Mh_ishr dJ0_length_8abf5_9 ?_
  exact Mh_ret dJ0_length_8abf5_10 rfl (fun _ => rfl) rfl
def f_J0_length_8abf5_0 (m : Mm) (o : Prop) : Int32 × Mm × Prop := bnd (F_J0_coder_7d493  m o) (fun v1 m1 o1 => f_J0_length_8abf5_9 v1 (10 : Int32) m1 o1)
set_option maxRecDepth 10000 in
theorem t_J0_length_8abf5_0 (l : Launch) (E : En) (c0 s0 : Nat) (m : Mm) (o : Prop) : Mh wI l E mi_J0_length_8abf5 c0 s0 0 [(0, .null)] [] m o (f_J0_length_8abf5_0  m o) := by
  refine Mh_loadS_n 0 (.inl rfl) rfl dJ0_length_8abf5_0 ?_
  refine Mh_vaS sl_RJ0_9 dJ0_length_8abf5_1 ?_
  refine Mh_lnS dJ0_length_8abf5_4 ?_
  refine Mh_loadS_n 0 (.inl rfl) rfl dJ0_length_8abf5_5 ?_
  refine Mh_cvSI (N := mi_J0_coder_7d493) (as := []) (st := [.int (10 : Int32)]) cg_yJ0_coder_7d493 rfl ml_RJ0_335 iv_yJ0_coder_7d493 pd_yJ0_coder_7d493 rfl (by decide) (Nat.le_of_ble_eq_true rfl) rfl dJ0_length_8abf5_6 (T_J0_coder_7d493 l E  _ _) rfl ?_
  refine Mh_sub (lv' := []) [] rfl ?_
  exact t_J0_length_8abf5_9 l E c0 s0 _ _ _ _
def F_J0_length_8abf5 (m : Mm) (o : Prop) : Int32 × Mm × Prop := f_J0_length_8abf5_0  m o
theorem T_J0_length_8abf5 (l : Launch) (E : En) (m : Mm) (o : Prop) : Mt wI l E yJ0_length_8abf5 mi_J0_length_8abf5 [.null] m o (F_J0_length_8abf5  m o) :=
  Mt_I (by decide) rfl rfl rfl (Nat.le_of_ble_eq_true rfl) rfl (.inl rfl) (t_J0_length_8abf5_0 l E _ _  _ _)
def f_J1_canEncode_9a6ad_16 (y0 : Int32) (m : Mm) (o : Prop) : Int32 × Mm × Prop := (y0, m, o ∧ (y0 = 0 ∨ y0 = 1))
set_option maxRecDepth 10000 in
theorem t_J1_canEncode_9a6ad_16 (l : Launch) (E : En) (c0 s0 : Nat) (y0 : Int32) (m : Mm) (o : Prop) : Mh wI l E mi_J1_canEncode_9a6ad c0 s0 16 [] [.int y0] m o (f_J1_canEncode_9a6ad_16 y0 m o) := by
  exact Mh_retZ dJ1_canEncode_9a6ad_16 (.inl rfl) rfl
def f_J1_canEncode_9a6ad_15 (m : Mm) (o : Prop) : Int32 × Mm × Prop := f_J1_canEncode_9a6ad_16 (0 : Int32) m o
set_option maxRecDepth 10000 in
theorem t_J1_canEncode_9a6ad_15 (l : Launch) (E : En) (c0 s0 : Nat) (m : Mm) (o : Prop) : Mh wI l E mi_J1_canEncode_9a6ad c0 s0 15 [] [] m o (f_J1_canEncode_9a6ad_15  m o) := by
  refine Mh_iconst (v := 0) dJ1_canEncode_9a6ad_15 (by decide) ?_
  exact t_J1_canEncode_9a6ad_16 l E c0 s0 _ _ _
def f_J1_canEncode_9a6ad_0 (l0 : Int32) (m : Mm) (o : Prop) : Int32 × Mm × Prop := if l0 < 0 then (f_J1_canEncode_9a6ad_15  m o) else (if (255 : Int32) < l0 then (f_J1_canEncode_9a6ad_15  m o) else (f_J1_canEncode_9a6ad_16 (1 : Int32) m o))
set_option maxRecDepth 10000 in
theorem t_J1_canEncode_9a6ad_0 (l : Launch) (E : En) (c0 s0 : Nat) (l0 : Int32) (m : Mm) (o : Prop) : Mh wI l E mi_J1_canEncode_9a6ad c0 s0 0 [(0, .int l0)] [] m o (f_J1_canEncode_9a6ad_0 l0 m o) := by
  refine Mh_iload_n 0 rfl dJ1_canEncode_9a6ad_0 ?_
  refine Mh_if_lt (tgt := 15) dJ1_canEncode_9a6ad_1 (by decide) rfl (fun _ => ?_) (fun _ => ?_)
  · refine Mh_sub (lv' := []) [] rfl ?_
    exact t_J1_canEncode_9a6ad_15 l E c0 s0  _ _
  · refine Mh_iload_n 0 rfl dJ1_canEncode_9a6ad_4 ?_
    refine Mh_sipush (v := 255) dJ1_canEncode_9a6ad_5 (by decide) ?_
    refine Mh_icmp_gt (tgt := 15) dJ1_canEncode_9a6ad_8 (by decide) rfl (fun _ => ?_) (fun _ => ?_)
    · refine Mh_sub (lv' := []) [] rfl ?_
      exact t_J1_canEncode_9a6ad_15 l E c0 s0  _ _
    · refine Mh_iconst (v := 1) dJ1_canEncode_9a6ad_11 (by decide) ?_
      refine Mh_goto (tgt := 16) dJ1_canEncode_9a6ad_12 (by decide) ?_
      refine Mh_sub (lv' := []) [] rfl ?_
      exact t_J1_canEncode_9a6ad_16 l E c0 s0 _ _ _
def F_J1_canEncode_9a6ad (a0 : Int32) (m : Mm) (o : Prop) : Int32 × Mm × Prop := f_J1_canEncode_9a6ad_0 a0 m o
theorem T_J1_canEncode_9a6ad (l : Launch) (E : En) (a0 : Int32) (m : Mm) (o : Prop) : Mt wI l E yJ1_canEncode_9a6ad mi_J1_canEncode_9a6ad [.int a0] m o (F_J1_canEncode_9a6ad a0 m o) :=
  Mt_I (by decide) rfl rfl rfl (Nat.le_of_ble_eq_true rfl) rfl (.inr (.inl rfl)) (t_J1_canEncode_9a6ad_0 l E _ _ _ _ _)
def f_J1_indexOfChar_4cfef_7b (k7 : Int32 → Int32 → Int32 → Mm → Prop → Int32 × Mm × Prop) (l3 : Int32) (l4 : Int32) (l5 : Int32) (m : Mm) (o : Prop) : Int32 × Mm × Prop := if l3 ≤ l5 then ((-1 : Int32), m, o) else (if (lby.getD (ix l5) 0) = l4 then (l5, m, (o ∧ vp_in l5 10)) else (k7 l3 l4 (l5 + 1) m (o ∧ vp_in l5 10)))
set_option maxRecDepth 10000 in
theorem t_J1_indexOfChar_4cfef_7b (l : Launch) (E : En) (c0 s0 : Nat) (k7 : Int32 → Int32 → Int32 → Mm → Prop → Int32 × Mm × Prop) (hk7 : ∀ (l3 : Int32) (l4 : Int32) (l5 : Int32) (m : Mm) (o : Prop), Mh wI l E mi_J1_indexOfChar_4cfef c0 s0 7 [(0, .float 0), (3, .int l3), (4, .int l4), (5, .int l5)] [] m o (k7 l3 l4 l5 m o)) (l3 : Int32) (l4 : Int32) (l5 : Int32) (m : Mm) (o : Prop) : Mh wI l E mi_J1_indexOfChar_4cfef c0 s0 7 [(0, .float 0), (3, .int l3), (4, .int l4), (5, .int l5)] [] m o (f_J1_indexOfChar_4cfef_7b k7 l3 l4 l5 m o) := by
  refine Mh_iload 3 rfl dJ1_indexOfChar_4cfef_7 ?_
  refine Mh_iload_n 1 rfl dJ1_indexOfChar_4cfef_9 ?_
  refine Mh_icmp_ge (tgt := 31) dJ1_indexOfChar_4cfef_10 (by decide) rfl (fun _ => ?_) (fun _ => ?_)
  · refine Mh_iconst (v := (-1)) dJ1_indexOfChar_4cfef_31 (by decide) ?_
    exact Mh_ret dJ1_indexOfChar_4cfef_32 rfl (fun _ => rfl) rfl
  · refine Mh_loadS_n 0 (.inr rfl) rfl dJ1_indexOfChar_4cfef_13 ?_
    refine Mh_iload 3 rfl dJ1_indexOfChar_4cfef_14 ?_
    refine Mh_baS dJ1_indexOfChar_4cfef_16 ?_
    refine Mh_iload 2 rfl dJ1_indexOfChar_4cfef_17 ?_
    refine Mh_icmp_ne (tgt := 25) dJ1_indexOfChar_4cfef_19 (by decide) rfl (fun _ => ?_) (fun _ => ?_)
    · refine Mh_iinc (v := l5 + 1) (lv' := [(5, .int (l5 + 1)), (0, .float 0), (3, .int l3), (4, .int l4)]) 3 dJ1_indexOfChar_4cfef_25 rfl rfl (Nat.le_of_ble_eq_true rfl) rfl ?_
      refine Mh_goto (tgt := 7) dJ1_indexOfChar_4cfef_28 (by decide) ?_
      refine Mh_sub (lv' := [(0, .float 0), (3, .int l3), (4, .int l4), (5, .int (l5 + 1))]) [1, 2, 3, 0] rfl ?_
      exact hk7 _ _ _ _ _
    · refine Mh_iload 3 rfl dJ1_indexOfChar_4cfef_22 ?_
      exact Mh_ret dJ1_indexOfChar_4cfef_24 rfl (fun _ => rfl) rfl
def f_J1_indexOfChar_4cfef_7 : Nat → Int32 → Int32 → Int32 → Mm → Prop → Int32 × Mm × Prop
  | 0, _, _, _, m, _ => (0, m, False)
  | n + 1, l3, l4, l5, m, o => f_J1_indexOfChar_4cfef_7b (f_J1_indexOfChar_4cfef_7 n) l3 l4 l5 m o
theorem t_J1_indexOfChar_4cfef_7 (l : Launch) (E : En) (c0 s0 : Nat) : ∀ (n : Nat) (l3 : Int32) (l4 : Int32) (l5 : Int32) (m : Mm) (o : Prop), Mh wI l E mi_J1_indexOfChar_4cfef c0 s0 7 [(0, .float 0), (3, .int l3), (4, .int l4), (5, .int l5)] [] m o (f_J1_indexOfChar_4cfef_7 n l3 l4 l5 m o)
  | 0, _, _, _, _, _ => Mh_out rfl
  | n + 1, l3, l4, l5, m, o => t_J1_indexOfChar_4cfef_7b l E c0 s0 (f_J1_indexOfChar_4cfef_7 n) (t_J1_indexOfChar_4cfef_7 l E c0 s0 n) l3 l4 l5 m o
def f_J1_indexOfChar_4cfef_0 (l1 : Int32) (l2 : Int32) (l3 : Int32) (m : Mm) (o : Prop) : Int32 × Mm × Prop := f_J1_indexOfChar_4cfef_7 1000 l3 (Int8.toInt32 (Int32.toInt8 l1)) l2 m o
set_option maxRecDepth 10000 in
theorem t_J1_indexOfChar_4cfef_0 (l : Launch) (E : En) (c0 s0 : Nat) (l1 : Int32) (l2 : Int32) (l3 : Int32) (m : Mm) (o : Prop) : Mh wI l E mi_J1_indexOfChar_4cfef c0 s0 0 [(0, .float 0), (1, .int l1), (2, .int l2), (3, .int l3)] [] m o (f_J1_indexOfChar_4cfef_0 l1 l2 l3 m o) := by
  refine Mh_iload_n 1 rfl dJ1_indexOfChar_4cfef_0 ?_
  refine Mh_i2b dJ1_indexOfChar_4cfef_1 ?_
  refine Mh_istore (lv' := [(4, .int (Int8.toInt32 (Int32.toInt8 l1))), (0, .float 0), (1, .int l1), (2, .int l2), (3, .int l3)]) dJ1_indexOfChar_4cfef_2 (Nat.le_of_ble_eq_true rfl) rfl ?_
  refine Mh_iload_n 3 rfl dJ1_indexOfChar_4cfef_4 ?_
  refine Mh_istore (lv' := [(5, .int l2), (4, .int (Int8.toInt32 (Int32.toInt8 l1))), (0, .float 0), (1, .int l1), (2, .int l2), (3, .int l3)]) dJ1_indexOfChar_4cfef_5 (Nat.le_of_ble_eq_true rfl) rfl ?_
  refine Mh_sub (lv' := [(0, .float 0), (3, .int l3), (4, .int (Int8.toInt32 (Int32.toInt8 l1))), (5, .int l2)]) [2, 5, 1, 0] rfl ?_
  exact t_J1_indexOfChar_4cfef_7 l E c0 s0 _ _ _ _ _ _
def F_J1_indexOfChar_4cfef (a1 : Int32) (a2 : Int32) (a3 : Int32) (m : Mm) (o : Prop) : Int32 × Mm × Prop := f_J1_indexOfChar_4cfef_0 a1 a2 a3 m o
theorem T_J1_indexOfChar_4cfef (l : Launch) (E : En) (a1 : Int32) (a2 : Int32) (a3 : Int32) (m : Mm) (o : Prop) : Mt wI l E yJ1_indexOfChar_4cfef mi_J1_indexOfChar_4cfef [.float 0, .int a1, .int a2, .int a3] m o (F_J1_indexOfChar_4cfef a1 a2 a3 m o) :=
  Mt_I (by decide) rfl rfl rfl (Nat.le_of_ble_eq_true rfl) rfl (.inl rfl) (t_J1_indexOfChar_4cfef_0 l E _ _ _ _ _ _ _)
def f_J1_indexOf_4cfef_36 (y0 : Int32) (m : Mm) (o : Prop) : Int32 × Mm × Prop := (y0, m, o)
set_option maxRecDepth 10000 in
theorem t_J1_indexOf_4cfef_36 (l : Launch) (E : En) (c0 s0 : Nat) (y0 : Int32) (m : Mm) (o : Prop) : Mh wI l E mi_J1_indexOf_4cfef c0 s0 36 [] [.int y0] m o (f_J1_indexOf_4cfef_36 y0 m o) := by
  exact Mh_ret dJ1_indexOf_4cfef_36 rfl (fun _ => rfl) rfl
def f_J1_indexOf_4cfef_4 (l1 : Int32) (l2 : Int32) (l3 : Int32) (y0 : Int32) (m : Mm) (o : Prop) : Int32 × Mm × Prop := if y0 = 0 then ((-1 : Int32), m, o) else (if (if l2 < (0 : Int32) then (0 : Int32) else l2) < (if (10 : Int32) < l3 then (10 : Int32) else l3) then (bnd (F_J1_indexOfChar_4cfef l1 (if l2 < (0 : Int32) then (0 : Int32) else l2) (if (10 : Int32) < l3 then (10 : Int32) else l3) m o) (fun v1 m1 o1 => f_J1_indexOf_4cfef_36 v1 m1 o1)) else ((-1 : Int32), m, o))
set_option maxRecDepth 10000 in
theorem t_J1_indexOf_4cfef_4 (l : Launch) (E : En) (c0 s0 : Nat) (l1 : Int32) (l2 : Int32) (l3 : Int32) (y0 : Int32) (m : Mm) (o : Prop) : Mh wI l E mi_J1_indexOf_4cfef c0 s0 4 [(0, .float 0), (1, .int l1), (2, .int l2), (3, .int l3)] [.int y0] m o (f_J1_indexOf_4cfef_4 l1 l2 l3 y0 m o) := by
  refine Mh_if_ne (tgt := 9) dJ1_indexOf_4cfef_4 (by decide) rfl (fun _ => ?_) (fun _ => ?_)
  · refine Mh_iload_n 2 rfl dJ1_indexOf_4cfef_9 ?_
    refine Mh_iconst (v := 0) dJ1_indexOf_4cfef_10 (by decide) ?_
    refine Mh_max (by decide) ml_RJ1_92 ma_max_1 ma_2 ma_max_3 (Nat.le_of_ble_eq_true rfl) dJ1_indexOf_4cfef_11 ?_
    refine Mh_istore_n (lv' := [(2, .int (if l2 < (0 : Int32) then (0 : Int32) else l2)), (0, .float 0), (1, .int l1), (3, .int l3)]) dJ1_indexOf_4cfef_14 (Nat.le_of_ble_eq_true rfl) rfl ?_
    refine Mh_iload_n 3 rfl dJ1_indexOf_4cfef_15 ?_
    refine Mh_loadS_n 1 (.inr rfl) rfl dJ1_indexOf_4cfef_16 ?_
    refine Mh_lnS dJ1_indexOf_4cfef_17 ?_
    refine Mh_min (by decide) ml_RJ1_38 ma_min_1 ma_2 ma_min_3 (Nat.le_of_ble_eq_true rfl) dJ1_indexOf_4cfef_18 ?_
    refine Mh_istore_n (lv' := [(3, .int (if (10 : Int32) < l3 then (10 : Int32) else l3)), (2, .int (if l2 < (0 : Int32) then (0 : Int32) else l2)), (0, .float 0), (1, .int l1)]) dJ1_indexOf_4cfef_21 (Nat.le_of_ble_eq_true rfl) rfl ?_
    refine Mh_iload_n 1 rfl dJ1_indexOf_4cfef_22 ?_
    refine Mh_iload_n 0 rfl dJ1_indexOf_4cfef_23 ?_
    refine Mh_icmp_lt (tgt := 29) dJ1_indexOf_4cfef_24 (by decide) rfl (fun _ => ?_) (fun _ => ?_)
    · refine Mh_loadS_n 2 (.inr rfl) rfl dJ1_indexOf_4cfef_29 ?_
      refine Mh_iload_n 3 rfl dJ1_indexOf_4cfef_30 ?_
      refine Mh_iload_n 1 rfl dJ1_indexOf_4cfef_31 ?_
      refine Mh_iload_n 0 rfl dJ1_indexOf_4cfef_32 ?_
      refine Mh_csI (N := mi_J1_indexOfChar_4cfef) (as := [.float 0, .int l1, .int (if l2 < (0 : Int32) then (0 : Int32) else l2), .int (if (10 : Int32) < l3 then (10 : Int32) else l3)]) (st := []) cg_yJ1_indexOfChar_4cfef (.inl ml_RJ1_95) sv_yJ1_indexOfChar_4cfef pd_yJ1_indexOfChar_4cfef rfl (by decide) (Nat.le_of_ble_eq_true rfl) rfl dJ1_indexOf_4cfef_33 (T_J1_indexOfChar_4cfef l E _ _ _ _ _) rfl ?_
      refine Mh_sub (lv' := []) [] rfl ?_
      exact t_J1_indexOf_4cfef_36 l E c0 s0 _ _ _
    · refine Mh_iconst (v := (-1)) dJ1_indexOf_4cfef_27 (by decide) ?_
      exact Mh_ret dJ1_indexOf_4cfef_28 rfl (fun _ => rfl) rfl
  · refine Mh_iconst (v := (-1)) dJ1_indexOf_4cfef_7 (by decide) ?_
    exact Mh_ret dJ1_indexOf_4cfef_8 rfl (fun _ => rfl) rfl
def f_J1_indexOf_4cfef_0 (l1 : Int32) (l2 : Int32) (l3 : Int32) (m : Mm) (o : Prop) : Int32 × Mm × Prop := bnd (F_J1_canEncode_9a6ad l1 m o) (fun v1 m1 o1 => f_J1_indexOf_4cfef_4 l1 l2 l3 v1 m1 o1)
set_option maxRecDepth 10000 in
theorem t_J1_indexOf_4cfef_0 (l : Launch) (E : En) (c0 s0 : Nat) (l1 : Int32) (l2 : Int32) (l3 : Int32) (m : Mm) (o : Prop) : Mh wI l E mi_J1_indexOf_4cfef c0 s0 0 [(0, .float 0), (1, .int l1), (2, .int l2), (3, .int l3)] [] m o (f_J1_indexOf_4cfef_0 l1 l2 l3 m o) := by
  refine Mh_iload_n 1 rfl dJ1_indexOf_4cfef_0 ?_
  refine Mh_csI (N := mi_J1_canEncode_9a6ad) (as := [.int l1]) (st := []) cg_yJ1_canEncode_9a6ad (.inl ml_RJ1_88) sv_yJ1_canEncode_9a6ad pd_yJ1_canEncode_9a6ad rfl (by decide) (Nat.le_of_ble_eq_true rfl) rfl dJ1_indexOf_4cfef_1 (T_J1_canEncode_9a6ad l E _ _ _) rfl ?_
  exact t_J1_indexOf_4cfef_4 l E c0 s0 _ _ _ _ _ _
def F_J1_indexOf_4cfef (a1 : Int32) (a2 : Int32) (a3 : Int32) (m : Mm) (o : Prop) : Int32 × Mm × Prop := f_J1_indexOf_4cfef_0 a1 a2 a3 m o
theorem T_J1_indexOf_4cfef (l : Launch) (E : En) (a1 : Int32) (a2 : Int32) (a3 : Int32) (m : Mm) (o : Prop) : Mt wI l E yJ1_indexOf_4cfef mi_J1_indexOf_4cfef [.float 0, .int a1, .int a2, .int a3] m o (F_J1_indexOf_4cfef a1 a2 a3 m o) :=
  Mt_I (by decide) rfl rfl rfl (Nat.le_of_ble_eq_true rfl) rfl (.inl rfl) (t_J1_indexOf_4cfef_0 l E _ _ _ _ _ _ _)
def f_J0_indexOf_7cf53_36 (y0 : Int32) (m : Mm) (o : Prop) : Int32 × Mm × Prop := (y0, m, o)
set_option maxRecDepth 10000 in
theorem t_J0_indexOf_7cf53_36 (l : Launch) (E : En) (c0 s0 : Nat) (y0 : Int32) (m : Mm) (o : Prop) : Mh wI l E mi_J0_indexOf_7cf53 c0 s0 36 [] [.int y0] m o (f_J0_indexOf_7cf53_36 y0 m o) := by
  exact Mh_ret dJ0_indexOf_7cf53_36 rfl (fun _ => rfl) rfl
def f_J0_indexOf_7cf53_20 (y0 : Int32) (m : Mm) (o : Prop) : Int32 × Mm × Prop := f_J0_indexOf_7cf53_36 y0 m o
set_option maxRecDepth 10000 in
theorem t_J0_indexOf_7cf53_20 (l : Launch) (E : En) (c0 s0 : Nat) (y0 : Int32) (m : Mm) (o : Prop) : Mh wI l E mi_J0_indexOf_7cf53 c0 s0 20 [] [.int y0] m o (f_J0_indexOf_7cf53_20 y0 m o) := by
  refine Mh_goto (tgt := 36) dJ0_indexOf_7cf53_20 (by decide) ?_
  exact t_J0_indexOf_7cf53_36 l E c0 s0 _ _ _
def f_J0_indexOf_7cf53_17 (y3 : Int32) (y2 : Int32) (y1 : Int32) (m : Mm) (o : Prop) : Int32 × Mm × Prop := bnd (F_J1_indexOf_4cfef y1 y2 y3 m o) (fun v1 m1 o1 => f_J0_indexOf_7cf53_20 v1 m1 o1)
set_option maxRecDepth 10000 in
theorem t_J0_indexOf_7cf53_17 (l : Launch) (E : En) (c0 s0 : Nat) (y3 : Int32) (y2 : Int32) (y1 : Int32) (m : Mm) (o : Prop) : Mh wI l E mi_J0_indexOf_7cf53 c0 s0 17 [] [.int y3, .int y2, .int y1, .float 0] m o (f_J0_indexOf_7cf53_17 y3 y2 y1 m o) := by
  refine Mh_csI (N := mi_J1_indexOf_4cfef) (as := [.float 0, .int y1, .int y2, .int y3]) (st := []) cg_yJ1_indexOf_4cfef (.inl ml_RJ0_637) sv_yJ1_indexOf_4cfef pd_yJ1_indexOf_4cfef rfl (by decide) (Nat.le_of_ble_eq_true rfl) rfl dJ0_indexOf_7cf53_17 (T_J1_indexOf_4cfef l E _ _ _ _ _) rfl ?_
  exact t_J0_indexOf_7cf53_20 l E c0 s0 _ _ _
def f_J0_indexOf_7cf53_33 (y3 : Int32) (y2 : Int32) (y1 : Int32) (m : Mm) (o : Prop) : Int32 × Mm × Prop := (0, m, False)
set_option maxRecDepth 10000 in
theorem t_J0_indexOf_7cf53_33 (l : Launch) (E : En) (c0 s0 : Nat) (y3 : Int32) (y2 : Int32) (y1 : Int32) (m : Mm) (o : Prop) : Mh wI l E mi_J0_indexOf_7cf53 c0 s0 33 [] [.int y3, .int y2, .int y1, .float 0] m o (f_J0_indexOf_7cf53_33 y3 y2 y1 m o) := by
  exact Mh_out rfl
def f_J0_indexOf_7cf53_4 (l1 : Int32) (l2 : Int32) (y0 : Int32) (m : Mm) (o : Prop) : Int32 × Mm × Prop := if y0 = 0 then (bnd (F_J0_length_8abf5  m o) (fun v1 m1 o1 => f_J0_indexOf_7cf53_33 v1 l2 l1 m1 o1)) else (bnd (F_J0_length_8abf5  m o) (fun v1 m1 o1 => f_J0_indexOf_7cf53_17 v1 l2 l1 m1 o1))
set_option maxRecDepth 10000 in
theorem t_J0_indexOf_7cf53_4 (l : Launch) (E : En) (c0 s0 : Nat) (l1 : Int32) (l2 : Int32) (y0 : Int32) (m : Mm) (o : Prop) : Mh wI l E mi_J0_indexOf_7cf53 c0 s0 4 [(0, .null), (1, .int l1), (2, .int l2)] [.int y0] m o (f_J0_indexOf_7cf53_4 l1 l2 y0 m o) := by
  refine Mh_if_eq (tgt := 23) dJ0_indexOf_7cf53_4 (by decide) rfl (fun _ => ?_) (fun _ => ?_)
  · refine Mh_loadS_n 0 (.inl rfl) rfl dJ0_indexOf_7cf53_23 ?_
    refine Mh_vaS sl_RJ0_9 dJ0_indexOf_7cf53_24 ?_
    refine Mh_iload_n 1 rfl dJ0_indexOf_7cf53_27 ?_
    refine Mh_iload_n 2 rfl dJ0_indexOf_7cf53_28 ?_
    refine Mh_loadS_n 0 (.inl rfl) rfl dJ0_indexOf_7cf53_29 ?_
    refine Mh_cvSI (N := mi_J0_length_8abf5) (as := []) (st := [.int l2, .int l1, .float 0]) cg_yJ0_length_8abf5 rfl ml_RJ0_505 iv_yJ0_length_8abf5 pd_yJ0_length_8abf5 rfl (by decide) (Nat.le_of_ble_eq_true rfl) rfl dJ0_indexOf_7cf53_30 (T_J0_length_8abf5 l E  _ _) rfl ?_
    refine Mh_sub (lv' := []) [] rfl ?_
    exact t_J0_indexOf_7cf53_33 l E c0 s0 _ _ _ _ _
  · refine Mh_loadS_n 0 (.inl rfl) rfl dJ0_indexOf_7cf53_7 ?_
    refine Mh_vaS sl_RJ0_9 dJ0_indexOf_7cf53_8 ?_
    refine Mh_iload_n 1 rfl dJ0_indexOf_7cf53_11 ?_
    refine Mh_iload_n 2 rfl dJ0_indexOf_7cf53_12 ?_
    refine Mh_loadS_n 0 (.inl rfl) rfl dJ0_indexOf_7cf53_13 ?_
    refine Mh_cvSI (N := mi_J0_length_8abf5) (as := []) (st := [.int l2, .int l1, .float 0]) cg_yJ0_length_8abf5 rfl ml_RJ0_505 iv_yJ0_length_8abf5 pd_yJ0_length_8abf5 rfl (by decide) (Nat.le_of_ble_eq_true rfl) rfl dJ0_indexOf_7cf53_14 (T_J0_length_8abf5 l E  _ _) rfl ?_
    refine Mh_sub (lv' := []) [] rfl ?_
    exact t_J0_indexOf_7cf53_17 l E c0 s0 _ _ _ _ _
def f_J0_indexOf_7cf53_0 (l1 : Int32) (l2 : Int32) (m : Mm) (o : Prop) : Int32 × Mm × Prop := bnd (F_J0_isLatin1_aae02  m o) (fun v1 m1 o1 => f_J0_indexOf_7cf53_4 l1 l2 v1 m1 o1)
set_option maxRecDepth 10000 in
theorem t_J0_indexOf_7cf53_0 (l : Launch) (E : En) (c0 s0 : Nat) (l1 : Int32) (l2 : Int32) (m : Mm) (o : Prop) : Mh wI l E mi_J0_indexOf_7cf53 c0 s0 0 [(0, .null), (1, .int l1), (2, .int l2)] [] m o (f_J0_indexOf_7cf53_0 l1 l2 m o) := by
  refine Mh_loadS_n 0 (.inl rfl) rfl dJ0_indexOf_7cf53_0 ?_
  refine Mh_cvSI (N := mi_J0_isLatin1_aae02) (as := []) (st := []) cg_yJ0_isLatin1_aae02 rfl ml_RJ0_492 iv_yJ0_isLatin1_aae02 pd_yJ0_isLatin1_aae02 rfl (by decide) (Nat.le_of_ble_eq_true rfl) rfl dJ0_indexOf_7cf53_1 (T_J0_isLatin1_aae02 l E  _ _) rfl ?_
  exact t_J0_indexOf_7cf53_4 l E c0 s0 _ _ _ _ _
def F_J0_indexOf_7cf53 (a1 : Int32) (a2 : Int32) (m : Mm) (o : Prop) : Int32 × Mm × Prop := f_J0_indexOf_7cf53_0 a1 a2 m o
theorem T_J0_indexOf_7cf53 (l : Launch) (E : En) (a1 : Int32) (a2 : Int32) (m : Mm) (o : Prop) : Mt wI l E yJ0_indexOf_7cf53 mi_J0_indexOf_7cf53 [.null, .int a1, .int a2] m o (F_J0_indexOf_7cf53 a1 a2 m o) :=
  Mt_I (by decide) rfl rfl rfl (Nat.le_of_ble_eq_true rfl) rfl (.inl rfl) (t_J0_indexOf_7cf53_0 l E _ _ _ _ _ _)
def f_J0_indexOf_0f7a4_6 (y0 : Int32) (m : Mm) (o : Prop) : Int32 × Mm × Prop := (y0, m, o)
set_option maxRecDepth 10000 in
theorem t_J0_indexOf_0f7a4_6 (l : Launch) (E : En) (c0 s0 : Nat) (y0 : Int32) (m : Mm) (o : Prop) : Mh wI l E mi_J0_indexOf_0f7a4 c0 s0 6 [] [.int y0] m o (f_J0_indexOf_0f7a4_6 y0 m o) := by
  exact Mh_ret dJ0_indexOf_0f7a4_6 rfl (fun _ => rfl) rfl
def f_J0_indexOf_0f7a4_0 (l1 : Int32) (m : Mm) (o : Prop) : Int32 × Mm × Prop := bnd (F_J0_indexOf_7cf53 l1 (0 : Int32) m o) (fun v1 m1 o1 => f_J0_indexOf_0f7a4_6 v1 m1 o1)
set_option maxRecDepth 10000 in
theorem t_J0_indexOf_0f7a4_0 (l : Launch) (E : En) (c0 s0 : Nat) (l1 : Int32) (m : Mm) (o : Prop) : Mh wI l E mi_J0_indexOf_0f7a4 c0 s0 0 [(0, .null), (1, .int l1)] [] m o (f_J0_indexOf_0f7a4_0 l1 m o) := by
  refine Mh_loadS_n 0 (.inl rfl) rfl dJ0_indexOf_0f7a4_0 ?_
  refine Mh_iload_n 1 rfl dJ0_indexOf_0f7a4_1 ?_
  refine Mh_iconst (v := 0) dJ0_indexOf_0f7a4_2 (by decide) ?_
  refine Mh_cvSI (N := mi_J0_indexOf_7cf53) (as := [.int l1, .int (0 : Int32)]) (st := []) cg_yJ0_indexOf_7cf53 rfl ml_RJ0_633 iv_yJ0_indexOf_7cf53 pd_yJ0_indexOf_7cf53 rfl (by decide) (Nat.le_of_ble_eq_true rfl) rfl dJ0_indexOf_0f7a4_3 (T_J0_indexOf_7cf53 l E _ _ _ _) rfl ?_
  refine Mh_sub (lv' := []) [] rfl ?_
  exact t_J0_indexOf_0f7a4_6 l E c0 s0 _ _ _
def F_J0_indexOf_0f7a4 (a1 : Int32) (m : Mm) (o : Prop) : Int32 × Mm × Prop := f_J0_indexOf_0f7a4_0 a1 m o
theorem T_J0_indexOf_0f7a4 (l : Launch) (E : En) (a1 : Int32) (m : Mm) (o : Prop) : Mt wI l E yJ0_indexOf_0f7a4 mi_J0_indexOf_0f7a4 [.null, .int a1] m o (F_J0_indexOf_0f7a4 a1 m o) :=
  Mt_I (by decide) rfl rfl rfl (Nat.le_of_ble_eq_true rfl) rfl (.inl rfl) (t_J0_indexOf_0f7a4_0 l E _ _ _ _ _)
