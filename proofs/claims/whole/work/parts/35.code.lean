def f_X12_init_463 (m : Mm) (o : Prop) : Unit × Mm × Prop := ((), m, o)
set_option maxRecDepth 10000 in
theorem t_X12_init_463 (l : Launch) (E : En) (c0 s0 : Nat) (m : Mm) (o : Prop) : Mh wU l E mi_X12_init c0 s0 463 [] [] m o (f_X12_init_463  m o) := by
  exact Mh_ret dX12_init_463 rfl (fun _ => trivial) rfl
def f_X12_init_460 (y1 : Nat) (y0 : Nat) (m : Mm) (o : Prop) : Unit × Mm × Prop := f_X12_init_463  (sR m y0 76 y1) (o ∧ (gT m y0 = 12 ∧ y1 ≠ 0))
set_option maxRecDepth 10000 in
theorem t_X12_init_460 (l : Launch) (E : En) (c0 s0 : Nat) (y1 : Nat) (y0 : Nat) (m : Mm) (o : Prop) : Mh wU l E mi_X12_init c0 s0 460 [] [.ref y1, .ref y0] m o (f_X12_init_460 y1 y0 m o) := by
  refine Mh_pR fd_11_76 ft_11 (.inr ⟨_, rfl⟩) fl_RX12_183 (.inr ⟨rfl, rfl, rfl, flg_RX12_183⟩) dX12_init_460 ?_
  exact t_X12_init_463 l E c0 s0  _ _
def f_X12_init_455 (l0 : Nat) (m : Mm) (o : Prop) : Unit × Mm × Prop := f_X12_init_460 (gC m + 1) l0 (nC m 20 30 30) o
set_option maxRecDepth 10000 in
theorem t_X12_init_455 (l : Launch) (E : En) (c0 s0 : Nat) (l0 : Nat) (m : Mm) (o : Prop) : Mh wU l E mi_X12_init c0 s0 455 [(0, .ref l0)] [] m o (f_X12_init_455 l0 m o) := by
  refine Mh_aload_n 0 rfl dX12_init_455 ?_
  refine Mh_bipush (v := 30) dX12_init_456 (by decide) ?_
  refine Mh_nar 20 0 30 .int (.inl rfl) rfl rfl (fun _ _ h => h) (.inr ⟨by decide, rfl⟩) nar_20 (by decide) (by decide) (by decide) dX12_init_458 ?_
  refine Mh_sub (lv' := []) [] rfl ?_
  exact t_X12_init_460 l E c0 s0 _ _ _ _
def f_X12_init_452 (l0 : Nat) (y1 : Nat) (y0 : Nat) (m : Mm) (o : Prop) : Unit × Mm × Prop := f_X12_init_455 l0 (sR m y0 75 y1) (o ∧ (gT m y0 = 12 ∧ y1 ≠ 0))
set_option maxRecDepth 10000 in
theorem t_X12_init_452 (l : Launch) (E : En) (c0 s0 : Nat) (l0 : Nat) (y1 : Nat) (y0 : Nat) (m : Mm) (o : Prop) : Mh wU l E mi_X12_init c0 s0 452 [(0, .ref l0)] [.ref y1, .ref y0] m o (f_X12_init_452 l0 y1 y0 m o) := by
  refine Mh_pR fd_11_75 ft_11 (.inr ⟨_, rfl⟩) fl_RX12_180 (.inr ⟨rfl, rfl, rfl, flg_RX12_180⟩) dX12_init_452 ?_
  exact t_X12_init_455 l E c0 s0 _ _ _
def f_X12_init_447 (l0 : Nat) (m : Mm) (o : Prop) : Unit × Mm × Prop := f_X12_init_452 l0 (gC m + 1) l0 (nC m 20 30 30) o
set_option maxRecDepth 10000 in
theorem t_X12_init_447 (l : Launch) (E : En) (c0 s0 : Nat) (l0 : Nat) (m : Mm) (o : Prop) : Mh wU l E mi_X12_init c0 s0 447 [(0, .ref l0)] [] m o (f_X12_init_447 l0 m o) := by
  refine Mh_aload_n 0 rfl dX12_init_447 ?_
  refine Mh_bipush (v := 30) dX12_init_448 (by decide) ?_
  refine Mh_nar 20 0 30 .int (.inl rfl) rfl rfl (fun _ _ h => h) (.inr ⟨by decide, rfl⟩) nar_20 (by decide) (by decide) (by decide) dX12_init_450 ?_
  exact t_X12_init_452 l E c0 s0 _ _ _ _ _
def f_X12_init_444 (l0 : Nat) (y1 : Nat) (y0 : Nat) (m : Mm) (o : Prop) : Unit × Mm × Prop := f_X12_init_447 l0 (sR m y0 74 y1) (o ∧ (gT m y0 = 12 ∧ y1 ≠ 0))
set_option maxRecDepth 10000 in
theorem t_X12_init_444 (l : Launch) (E : En) (c0 s0 : Nat) (l0 : Nat) (y1 : Nat) (y0 : Nat) (m : Mm) (o : Prop) : Mh wU l E mi_X12_init c0 s0 444 [(0, .ref l0)] [.ref y1, .ref y0] m o (f_X12_init_444 l0 y1 y0 m o) := by
  refine Mh_pR fd_11_74 ft_11 (.inr ⟨_, rfl⟩) fl_RX12_177 (.inr ⟨rfl, rfl, rfl, flg_RX12_177⟩) dX12_init_444 ?_
  exact t_X12_init_447 l E c0 s0 _ _ _
def f_X12_init_439 (l0 : Nat) (m : Mm) (o : Prop) : Unit × Mm × Prop := f_X12_init_444 l0 (gC m + 1) l0 (nC m 20 30 30) o
set_option maxRecDepth 10000 in
theorem t_X12_init_439 (l : Launch) (E : En) (c0 s0 : Nat) (l0 : Nat) (m : Mm) (o : Prop) : Mh wU l E mi_X12_init c0 s0 439 [(0, .ref l0)] [] m o (f_X12_init_439 l0 m o) := by
  refine Mh_aload_n 0 rfl dX12_init_439 ?_
  refine Mh_bipush (v := 30) dX12_init_440 (by decide) ?_
  refine Mh_nar 20 0 30 .int (.inl rfl) rfl rfl (fun _ _ h => h) (.inr ⟨by decide, rfl⟩) nar_20 (by decide) (by decide) (by decide) dX12_init_442 ?_
  exact t_X12_init_444 l E c0 s0 _ _ _ _ _
def f_X12_init_436 (l0 : Nat) (y1 : Nat) (y0 : Nat) (m : Mm) (o : Prop) : Unit × Mm × Prop := f_X12_init_439 l0 (sR m y0 73 y1) (o ∧ (gT m y0 = 12 ∧ y1 ≠ 0))
set_option maxRecDepth 10000 in
theorem t_X12_init_436 (l : Launch) (E : En) (c0 s0 : Nat) (l0 : Nat) (y1 : Nat) (y0 : Nat) (m : Mm) (o : Prop) : Mh wU l E mi_X12_init c0 s0 436 [(0, .ref l0)] [.ref y1, .ref y0] m o (f_X12_init_436 l0 y1 y0 m o) := by
  refine Mh_pR fd_11_73 ft_11 (.inr ⟨_, rfl⟩) fl_RX12_174 (.inr ⟨rfl, rfl, rfl, flg_RX12_174⟩) dX12_init_436 ?_
  exact t_X12_init_439 l E c0 s0 _ _ _
def f_X12_init_430 (l0 : Nat) (m : Mm) (o : Prop) : Unit × Mm × Prop := f_X12_init_436 l0 (gC m + 1) l0 (nC m 21 501 501) o
set_option maxRecDepth 10000 in
theorem t_X12_init_430 (l : Launch) (E : En) (c0 s0 : Nat) (l0 : Nat) (m : Mm) (o : Prop) : Mh wU l E mi_X12_init c0 s0 430 [(0, .ref l0)] [] m o (f_X12_init_430 l0 m o) := by
  refine Mh_aload_n 0 rfl dX12_init_430 ?_
  refine Mh_sipush (v := 501) dX12_init_431 (by decide) ?_
  refine Mh_nar 21 1 501 .long (.inr (.inl rfl)) rfl rfl (fun _ _ h => h) (.inl ⟨rfl, rfl⟩) nar_21 (by decide) (by decide) (by decide) dX12_init_434 ?_
  exact t_X12_init_436 l E c0 s0 _ _ _ _ _
def f_X12_init_427 (l0 : Nat) (y1 : Nat) (y0 : Nat) (m : Mm) (o : Prop) : Unit × Mm × Prop := f_X12_init_430 l0 (sR m y0 72 y1) (o ∧ (gT m y0 = 12 ∧ y1 ≠ 0))
set_option maxRecDepth 10000 in
theorem t_X12_init_427 (l : Launch) (E : En) (c0 s0 : Nat) (l0 : Nat) (y1 : Nat) (y0 : Nat) (m : Mm) (o : Prop) : Mh wU l E mi_X12_init c0 s0 427 [(0, .ref l0)] [.ref y1, .ref y0] m o (f_X12_init_427 l0 y1 y0 m o) := by
  refine Mh_pR fd_11_72 ft_11 (.inr ⟨_, rfl⟩) fl_RX12_170 (.inr ⟨rfl, rfl, rfl, flg_RX12_170⟩) dX12_init_427 ?_
  exact t_X12_init_430 l E c0 s0 _ _ _
def f_X12_init_421 (l0 : Nat) (m : Mm) (o : Prop) : Unit × Mm × Prop := f_X12_init_427 l0 (gC m + 1) l0 (nC m 21 501 501) o
set_option maxRecDepth 10000 in
theorem t_X12_init_421 (l : Launch) (E : En) (c0 s0 : Nat) (l0 : Nat) (m : Mm) (o : Prop) : Mh wU l E mi_X12_init c0 s0 421 [(0, .ref l0)] [] m o (f_X12_init_421 l0 m o) := by
  refine Mh_aload_n 0 rfl dX12_init_421 ?_
  refine Mh_sipush (v := 501) dX12_init_422 (by decide) ?_
  refine Mh_nar 21 1 501 .long (.inr (.inl rfl)) rfl rfl (fun _ _ h => h) (.inl ⟨rfl, rfl⟩) nar_21 (by decide) (by decide) (by decide) dX12_init_425 ?_
  exact t_X12_init_427 l E c0 s0 _ _ _ _ _
def f_X12_init_418 (l0 : Nat) (y1 : Nat) (y0 : Nat) (m : Mm) (o : Prop) : Unit × Mm × Prop := f_X12_init_421 l0 (sR m y0 71 y1) (o ∧ (gT m y0 = 12 ∧ y1 ≠ 0))
set_option maxRecDepth 10000 in
theorem t_X12_init_418 (l : Launch) (E : En) (c0 s0 : Nat) (l0 : Nat) (y1 : Nat) (y0 : Nat) (m : Mm) (o : Prop) : Mh wU l E mi_X12_init c0 s0 418 [(0, .ref l0)] [.ref y1, .ref y0] m o (f_X12_init_418 l0 y1 y0 m o) := by
  refine Mh_pR fd_11_71 ft_11 (.inr ⟨_, rfl⟩) fl_RX12_167 (.inr ⟨rfl, rfl, rfl, flg_RX12_167⟩) dX12_init_418 ?_
  exact t_X12_init_421 l E c0 s0 _ _ _
def f_X12_init_414 (l0 : Nat) (m : Mm) (o : Prop) : Unit × Mm × Prop := f_X12_init_418 l0 (gC m + 1) l0 (nC m 20 5 5) o
set_option maxRecDepth 10000 in
theorem t_X12_init_414 (l : Launch) (E : En) (c0 s0 : Nat) (l0 : Nat) (m : Mm) (o : Prop) : Mh wU l E mi_X12_init c0 s0 414 [(0, .ref l0)] [] m o (f_X12_init_414 l0 m o) := by
  refine Mh_aload_n 0 rfl dX12_init_414 ?_
  refine Mh_iconst (v := 5) dX12_init_415 (by decide) ?_
  refine Mh_nar 20 0 5 .int (.inl rfl) rfl rfl (fun _ _ h => h) (.inr ⟨by decide, rfl⟩) nar_20 (by decide) (by decide) (by decide) dX12_init_416 ?_
  exact t_X12_init_418 l E c0 s0 _ _ _ _ _
def f_X12_init_411 (l0 : Nat) (y1 : Nat) (y0 : Nat) (m : Mm) (o : Prop) : Unit × Mm × Prop := f_X12_init_414 l0 (sR m y0 70 y1) (o ∧ (gT m y0 = 12 ∧ y1 ≠ 0))
set_option maxRecDepth 10000 in
theorem t_X12_init_411 (l : Launch) (E : En) (c0 s0 : Nat) (l0 : Nat) (y1 : Nat) (y0 : Nat) (m : Mm) (o : Prop) : Mh wU l E mi_X12_init c0 s0 411 [(0, .ref l0)] [.ref y1, .ref y0] m o (f_X12_init_411 l0 y1 y0 m o) := by
  refine Mh_pR fd_11_70 ft_11 (.inr ⟨_, rfl⟩) fl_RX12_164 (.inr ⟨rfl, rfl, rfl, flg_RX12_164⟩) dX12_init_411 ?_
  exact t_X12_init_414 l E c0 s0 _ _ _
def f_X12_init_406 (l0 : Nat) (m : Mm) (o : Prop) : Unit × Mm × Prop := f_X12_init_411 l0 (gC m + 1) l0 (nC m 20 65536 65536) o
set_option maxRecDepth 10000 in
theorem t_X12_init_406 (l : Launch) (E : En) (c0 s0 : Nat) (l0 : Nat) (m : Mm) (o : Prop) : Mh wU l E mi_X12_init c0 s0 406 [(0, .ref l0)] [] m o (f_X12_init_406 l0 m o) := by
  refine Mh_aload_n 0 rfl dX12_init_406 ?_
  refine Mh_ldc (v := 65536) gc_RX12_163 dX12_init_407 ?_
  refine Mh_nar 20 0 65536 .int (.inl rfl) rfl rfl (fun _ _ h => h) (.inr ⟨by decide, rfl⟩) nar_20 (by decide) (by decide) (by decide) dX12_init_409 ?_
  exact t_X12_init_411 l E c0 s0 _ _ _ _ _
def f_X12_init_403 (l0 : Nat) (y1 : Nat) (y0 : Nat) (m : Mm) (o : Prop) : Unit × Mm × Prop := f_X12_init_406 l0 (sR m y0 68 y1) (o ∧ (gT m y0 = 12 ∧ y1 ≠ 0))
set_option maxRecDepth 10000 in
theorem t_X12_init_403 (l : Launch) (E : En) (c0 s0 : Nat) (l0 : Nat) (y1 : Nat) (y0 : Nat) (m : Mm) (o : Prop) : Mh wU l E mi_X12_init c0 s0 403 [(0, .ref l0)] [.ref y1, .ref y0] m o (f_X12_init_403 l0 y1 y0 m o) := by
  refine Mh_pR fd_11_68 ft_11 (.inr ⟨_, rfl⟩) fl_RX12_160 (.inr ⟨rfl, rfl, rfl, flg_RX12_160⟩) dX12_init_403 ?_
  exact t_X12_init_406 l E c0 s0 _ _ _
def f_X12_init_399 (l0 : Nat) (m : Mm) (o : Prop) : Unit × Mm × Prop := f_X12_init_403 l0 (gC m + 1) l0 (nC m 20 4 4) o
set_option maxRecDepth 10000 in
theorem t_X12_init_399 (l : Launch) (E : En) (c0 s0 : Nat) (l0 : Nat) (m : Mm) (o : Prop) : Mh wU l E mi_X12_init c0 s0 399 [(0, .ref l0)] [] m o (f_X12_init_399 l0 m o) := by
  refine Mh_aload_n 0 rfl dX12_init_399 ?_
  refine Mh_iconst (v := 4) dX12_init_400 (by decide) ?_
  refine Mh_nar 20 0 4 .int (.inl rfl) rfl rfl (fun _ _ h => h) (.inr ⟨by decide, rfl⟩) nar_20 (by decide) (by decide) (by decide) dX12_init_401 ?_
  exact t_X12_init_403 l E c0 s0 _ _ _ _ _
def f_X12_init_396 (l0 : Nat) (y1 : Nat) (y0 : Nat) (m : Mm) (o : Prop) : Unit × Mm × Prop := f_X12_init_399 l0 (sR m y0 67 y1) (o ∧ (gT m y0 = 12 ∧ y1 ≠ 0))
set_option maxRecDepth 10000 in
theorem t_X12_init_396 (l : Launch) (E : En) (c0 s0 : Nat) (l0 : Nat) (y1 : Nat) (y0 : Nat) (m : Mm) (o : Prop) : Mh wU l E mi_X12_init c0 s0 396 [(0, .ref l0)] [.ref y1, .ref y0] m o (f_X12_init_396 l0 y1 y0 m o) := by
  refine Mh_pR fd_11_67 ft_11 (.inr ⟨_, rfl⟩) fl_RX12_157 (.inr ⟨rfl, rfl, rfl, flg_RX12_157⟩) dX12_init_396 ?_
  exact t_X12_init_399 l E c0 s0 _ _ _
def f_X12_init_392 (l0 : Nat) (m : Mm) (o : Prop) : Unit × Mm × Prop := f_X12_init_396 l0 (gC m + 1) l0 (nC m 20 5 5) o
set_option maxRecDepth 10000 in
theorem t_X12_init_392 (l : Launch) (E : En) (c0 s0 : Nat) (l0 : Nat) (m : Mm) (o : Prop) : Mh wU l E mi_X12_init c0 s0 392 [(0, .ref l0)] [] m o (f_X12_init_392 l0 m o) := by
  refine Mh_aload_n 0 rfl dX12_init_392 ?_
  refine Mh_iconst (v := 5) dX12_init_393 (by decide) ?_
  refine Mh_nar 20 0 5 .int (.inl rfl) rfl rfl (fun _ _ h => h) (.inr ⟨by decide, rfl⟩) nar_20 (by decide) (by decide) (by decide) dX12_init_394 ?_
  exact t_X12_init_396 l E c0 s0 _ _ _ _ _
def f_X12_init_389 (l0 : Nat) (y1 : Nat) (y0 : Nat) (m : Mm) (o : Prop) : Unit × Mm × Prop := f_X12_init_392 l0 (sR m y0 66 y1) (o ∧ (gT m y0 = 12 ∧ y1 ≠ 0))
set_option maxRecDepth 10000 in
theorem t_X12_init_389 (l : Launch) (E : En) (c0 s0 : Nat) (l0 : Nat) (y1 : Nat) (y0 : Nat) (m : Mm) (o : Prop) : Mh wU l E mi_X12_init c0 s0 389 [(0, .ref l0)] [.ref y1, .ref y0] m o (f_X12_init_389 l0 y1 y0 m o) := by
  refine Mh_pR fd_11_66 ft_11 (.inr ⟨_, rfl⟩) fl_RX12_154 (.inr ⟨rfl, rfl, rfl, flg_RX12_154⟩) dX12_init_389 ?_
  exact t_X12_init_392 l E c0 s0 _ _ _
def f_X12_init_384 (l0 : Nat) (m : Mm) (o : Prop) : Unit × Mm × Prop := f_X12_init_389 l0 (gC m + 1) l0 (nC m 20 12 12) o
set_option maxRecDepth 10000 in
theorem t_X12_init_384 (l : Launch) (E : En) (c0 s0 : Nat) (l0 : Nat) (m : Mm) (o : Prop) : Mh wU l E mi_X12_init c0 s0 384 [(0, .ref l0)] [] m o (f_X12_init_384 l0 m o) := by
  refine Mh_aload_n 0 rfl dX12_init_384 ?_
  refine Mh_bipush (v := 12) dX12_init_385 (by decide) ?_
  refine Mh_nar 20 0 12 .int (.inl rfl) rfl rfl (fun _ _ h => h) (.inr ⟨by decide, rfl⟩) nar_20 (by decide) (by decide) (by decide) dX12_init_387 ?_
  exact t_X12_init_389 l E c0 s0 _ _ _ _ _
def f_X12_init_381 (l0 : Nat) (y1 : Nat) (y0 : Nat) (m : Mm) (o : Prop) : Unit × Mm × Prop := f_X12_init_384 l0 (sR m y0 65 y1) (o ∧ (gT m y0 = 12 ∧ y1 ≠ 0))
set_option maxRecDepth 10000 in
theorem t_X12_init_381 (l : Launch) (E : En) (c0 s0 : Nat) (l0 : Nat) (y1 : Nat) (y0 : Nat) (m : Mm) (o : Prop) : Mh wU l E mi_X12_init c0 s0 381 [(0, .ref l0)] [.ref y1, .ref y0] m o (f_X12_init_381 l0 y1 y0 m o) := by
  refine Mh_pR fd_11_65 ft_11 (.inr ⟨_, rfl⟩) fl_RX12_151 (.inr ⟨rfl, rfl, rfl, flg_RX12_151⟩) dX12_init_381 ?_
  exact t_X12_init_384 l E c0 s0 _ _ _
def f_X12_init_375 (l0 : Nat) (m : Mm) (o : Prop) : Unit × Mm × Prop := f_X12_init_381 l0 (gC m + 1) l0 (nC m 20 384 384) o
set_option maxRecDepth 10000 in
theorem t_X12_init_375 (l : Launch) (E : En) (c0 s0 : Nat) (l0 : Nat) (m : Mm) (o : Prop) : Mh wU l E mi_X12_init c0 s0 375 [(0, .ref l0)] [] m o (f_X12_init_375 l0 m o) := by
  refine Mh_aload_n 0 rfl dX12_init_375 ?_
  refine Mh_sipush (v := 384) dX12_init_376 (by decide) ?_
  refine Mh_nar 20 0 384 .int (.inl rfl) rfl rfl (fun _ _ h => h) (.inr ⟨by decide, rfl⟩) nar_20 (by decide) (by decide) (by decide) dX12_init_379 ?_
  exact t_X12_init_381 l E c0 s0 _ _ _ _ _
def f_X12_init_372 (l0 : Nat) (y1 : Nat) (y0 : Nat) (m : Mm) (o : Prop) : Unit × Mm × Prop := f_X12_init_375 l0 (sR m y0 64 y1) (o ∧ (gT m y0 = 12 ∧ y1 ≠ 0))
set_option maxRecDepth 10000 in
theorem t_X12_init_372 (l : Launch) (E : En) (c0 s0 : Nat) (l0 : Nat) (y1 : Nat) (y0 : Nat) (m : Mm) (o : Prop) : Mh wU l E mi_X12_init c0 s0 372 [(0, .ref l0)] [.ref y1, .ref y0] m o (f_X12_init_372 l0 y1 y0 m o) := by
  refine Mh_pR fd_11_64 ft_11 (.inr ⟨_, rfl⟩) fl_RX12_148 (.inr ⟨rfl, rfl, rfl, flg_RX12_148⟩) dX12_init_372 ?_
  exact t_X12_init_375 l E c0 s0 _ _ _
def f_X12_init_367 (l0 : Nat) (m : Mm) (o : Prop) : Unit × Mm × Prop := f_X12_init_372 l0 (gC m + 1) l0 (nC m 20 10 10) o
set_option maxRecDepth 10000 in
theorem t_X12_init_367 (l : Launch) (E : En) (c0 s0 : Nat) (l0 : Nat) (m : Mm) (o : Prop) : Mh wU l E mi_X12_init c0 s0 367 [(0, .ref l0)] [] m o (f_X12_init_367 l0 m o) := by
  refine Mh_aload_n 0 rfl dX12_init_367 ?_
  refine Mh_bipush (v := 10) dX12_init_368 (by decide) ?_
  refine Mh_nar 20 0 10 .int (.inl rfl) rfl rfl (fun _ _ h => h) (.inr ⟨by decide, rfl⟩) nar_20 (by decide) (by decide) (by decide) dX12_init_370 ?_
  exact t_X12_init_372 l E c0 s0 _ _ _ _ _
def f_X12_init_364 (l0 : Nat) (y1 : Nat) (y0 : Nat) (m : Mm) (o : Prop) : Unit × Mm × Prop := f_X12_init_367 l0 (sR m y0 63 y1) (o ∧ (gT m y0 = 12 ∧ y1 ≠ 0))
set_option maxRecDepth 10000 in
theorem t_X12_init_364 (l : Launch) (E : En) (c0 s0 : Nat) (l0 : Nat) (y1 : Nat) (y0 : Nat) (m : Mm) (o : Prop) : Mh wU l E mi_X12_init c0 s0 364 [(0, .ref l0)] [.ref y1, .ref y0] m o (f_X12_init_364 l0 y1 y0 m o) := by
  refine Mh_pR fd_11_63 ft_11 (.inr ⟨_, rfl⟩) fl_RX12_145 (.inr ⟨rfl, rfl, rfl, flg_RX12_145⟩) dX12_init_364 ?_
  exact t_X12_init_367 l E c0 s0 _ _ _
def f_X12_init_358 (l0 : Nat) (m : Mm) (o : Prop) : Unit × Mm × Prop := f_X12_init_364 l0 (gC m + 1) l0 (nC m 20 160 160) o
set_option maxRecDepth 10000 in
theorem t_X12_init_358 (l : Launch) (E : En) (c0 s0 : Nat) (l0 : Nat) (m : Mm) (o : Prop) : Mh wU l E mi_X12_init c0 s0 358 [(0, .ref l0)] [] m o (f_X12_init_358 l0 m o) := by
  refine Mh_aload_n 0 rfl dX12_init_358 ?_
  refine Mh_sipush (v := 160) dX12_init_359 (by decide) ?_
  refine Mh_nar 20 0 160 .int (.inl rfl) rfl rfl (fun _ _ h => h) (.inr ⟨by decide, rfl⟩) nar_20 (by decide) (by decide) (by decide) dX12_init_362 ?_
  exact t_X12_init_364 l E c0 s0 _ _ _ _ _
def f_X12_init_355 (l0 : Nat) (y1 : Nat) (y0 : Nat) (m : Mm) (o : Prop) : Unit × Mm × Prop := f_X12_init_358 l0 (sR m y0 62 y1) (o ∧ (gT m y0 = 12 ∧ y1 ≠ 0))
set_option maxRecDepth 10000 in
theorem t_X12_init_355 (l : Launch) (E : En) (c0 s0 : Nat) (l0 : Nat) (y1 : Nat) (y0 : Nat) (m : Mm) (o : Prop) : Mh wU l E mi_X12_init c0 s0 355 [(0, .ref l0)] [.ref y1, .ref y0] m o (f_X12_init_355 l0 y1 y0 m o) := by
  refine Mh_pR fd_11_62 ft_11 (.inr ⟨_, rfl⟩) fl_RX12_142 (.inr ⟨rfl, rfl, rfl, flg_RX12_142⟩) dX12_init_355 ?_
  exact t_X12_init_358 l E c0 s0 _ _ _
def f_X12_init_350 (l0 : Nat) (m : Mm) (o : Prop) : Unit × Mm × Prop := f_X12_init_355 l0 (gC m + 1) l0 (nC m 20 32 32) o
set_option maxRecDepth 10000 in
theorem t_X12_init_350 (l : Launch) (E : En) (c0 s0 : Nat) (l0 : Nat) (m : Mm) (o : Prop) : Mh wU l E mi_X12_init c0 s0 350 [(0, .ref l0)] [] m o (f_X12_init_350 l0 m o) := by
  refine Mh_aload_n 0 rfl dX12_init_350 ?_
  refine Mh_bipush (v := 32) dX12_init_351 (by decide) ?_
  refine Mh_nar 20 0 32 .int (.inl rfl) rfl rfl (fun _ _ h => h) (.inr ⟨by decide, rfl⟩) nar_20 (by decide) (by decide) (by decide) dX12_init_353 ?_
  exact t_X12_init_355 l E c0 s0 _ _ _ _ _
def f_X12_init_347 (l0 : Nat) (y1 : Nat) (y0 : Nat) (m : Mm) (o : Prop) : Unit × Mm × Prop := f_X12_init_350 l0 (sR m y0 61 y1) (o ∧ (gT m y0 = 12 ∧ y1 ≠ 0))
set_option maxRecDepth 10000 in
theorem t_X12_init_347 (l : Launch) (E : En) (c0 s0 : Nat) (l0 : Nat) (y1 : Nat) (y0 : Nat) (m : Mm) (o : Prop) : Mh wU l E mi_X12_init c0 s0 347 [(0, .ref l0)] [.ref y1, .ref y0] m o (f_X12_init_347 l0 y1 y0 m o) := by
  refine Mh_pR fd_11_61 ft_11 (.inr ⟨_, rfl⟩) fl_RX12_139 (.inr ⟨rfl, rfl, rfl, flg_RX12_139⟩) dX12_init_347 ?_
  exact t_X12_init_350 l E c0 s0 _ _ _
def f_X12_init_342 (l0 : Nat) (m : Mm) (o : Prop) : Unit × Mm × Prop := f_X12_init_347 l0 (gC m + 1) l0 (nC m 20 32 32) o
set_option maxRecDepth 10000 in
theorem t_X12_init_342 (l : Launch) (E : En) (c0 s0 : Nat) (l0 : Nat) (m : Mm) (o : Prop) : Mh wU l E mi_X12_init c0 s0 342 [(0, .ref l0)] [] m o (f_X12_init_342 l0 m o) := by
  refine Mh_aload_n 0 rfl dX12_init_342 ?_
  refine Mh_bipush (v := 32) dX12_init_343 (by decide) ?_
  refine Mh_nar 20 0 32 .int (.inl rfl) rfl rfl (fun _ _ h => h) (.inr ⟨by decide, rfl⟩) nar_20 (by decide) (by decide) (by decide) dX12_init_345 ?_
  exact t_X12_init_347 l E c0 s0 _ _ _ _ _
def f_X12_init_339 (l0 : Nat) (y1 : Nat) (y0 : Nat) (m : Mm) (o : Prop) : Unit × Mm × Prop := f_X12_init_342 l0 (sR m y0 60 y1) (o ∧ (gT m y0 = 12 ∧ y1 ≠ 0))
set_option maxRecDepth 10000 in
theorem t_X12_init_339 (l : Launch) (E : En) (c0 s0 : Nat) (l0 : Nat) (y1 : Nat) (y0 : Nat) (m : Mm) (o : Prop) : Mh wU l E mi_X12_init c0 s0 339 [(0, .ref l0)] [.ref y1, .ref y0] m o (f_X12_init_339 l0 y1 y0 m o) := by
  refine Mh_pR fd_11_60 ft_11 (.inr ⟨_, rfl⟩) fl_RX12_136 (.inr ⟨rfl, rfl, rfl, flg_RX12_136⟩) dX12_init_339 ?_
  exact t_X12_init_342 l E c0 s0 _ _ _
def f_X12_init_334 (l0 : Nat) (m : Mm) (o : Prop) : Unit × Mm × Prop := f_X12_init_339 l0 (gC m + 1) l0 (nC m 20 32 32) o
set_option maxRecDepth 10000 in
theorem t_X12_init_334 (l : Launch) (E : En) (c0 s0 : Nat) (l0 : Nat) (m : Mm) (o : Prop) : Mh wU l E mi_X12_init c0 s0 334 [(0, .ref l0)] [] m o (f_X12_init_334 l0 m o) := by
  refine Mh_aload_n 0 rfl dX12_init_334 ?_
  refine Mh_bipush (v := 32) dX12_init_335 (by decide) ?_
  refine Mh_nar 20 0 32 .int (.inl rfl) rfl rfl (fun _ _ h => h) (.inr ⟨by decide, rfl⟩) nar_20 (by decide) (by decide) (by decide) dX12_init_337 ?_
  exact t_X12_init_339 l E c0 s0 _ _ _ _ _
def f_X12_init_331 (l0 : Nat) (y1 : Nat) (y0 : Nat) (m : Mm) (o : Prop) : Unit × Mm × Prop := f_X12_init_334 l0 (sR m y0 59 y1) (o ∧ (gT m y0 = 12 ∧ y1 ≠ 0))
set_option maxRecDepth 10000 in
theorem t_X12_init_331 (l : Launch) (E : En) (c0 s0 : Nat) (l0 : Nat) (y1 : Nat) (y0 : Nat) (m : Mm) (o : Prop) : Mh wU l E mi_X12_init c0 s0 331 [(0, .ref l0)] [.ref y1, .ref y0] m o (f_X12_init_331 l0 y1 y0 m o) := by
  refine Mh_pR fd_11_59 ft_11 (.inr ⟨_, rfl⟩) fl_RX12_133 (.inr ⟨rfl, rfl, rfl, flg_RX12_133⟩) dX12_init_331 ?_
  exact t_X12_init_334 l E c0 s0 _ _ _
def f_X12_init_326 (l0 : Nat) (m : Mm) (o : Prop) : Unit × Mm × Prop := f_X12_init_331 l0 (gC m + 1) l0 (nC m 20 32 32) o
set_option maxRecDepth 10000 in
theorem t_X12_init_326 (l : Launch) (E : En) (c0 s0 : Nat) (l0 : Nat) (m : Mm) (o : Prop) : Mh wU l E mi_X12_init c0 s0 326 [(0, .ref l0)] [] m o (f_X12_init_326 l0 m o) := by
  refine Mh_aload_n 0 rfl dX12_init_326 ?_
  refine Mh_bipush (v := 32) dX12_init_327 (by decide) ?_
  refine Mh_nar 20 0 32 .int (.inl rfl) rfl rfl (fun _ _ h => h) (.inr ⟨by decide, rfl⟩) nar_20 (by decide) (by decide) (by decide) dX12_init_329 ?_
  exact t_X12_init_331 l E c0 s0 _ _ _ _ _
def f_X12_init_323 (l0 : Nat) (y1 : Nat) (y0 : Nat) (m : Mm) (o : Prop) : Unit × Mm × Prop := f_X12_init_326 l0 (sR m y0 58 y1) (o ∧ (gT m y0 = 12 ∧ y1 ≠ 0))
set_option maxRecDepth 10000 in
theorem t_X12_init_323 (l : Launch) (E : En) (c0 s0 : Nat) (l0 : Nat) (y1 : Nat) (y0 : Nat) (m : Mm) (o : Prop) : Mh wU l E mi_X12_init c0 s0 323 [(0, .ref l0)] [.ref y1, .ref y0] m o (f_X12_init_323 l0 y1 y0 m o) := by
  refine Mh_pR fd_11_58 ft_11 (.inr ⟨_, rfl⟩) fl_RX12_130 (.inr ⟨rfl, rfl, rfl, flg_RX12_130⟩) dX12_init_323 ?_
  exact t_X12_init_326 l E c0 s0 _ _ _
def f_X12_init_318 (l0 : Nat) (m : Mm) (o : Prop) : Unit × Mm × Prop := f_X12_init_323 l0 (gC m + 1) l0 (nC m 22 24 24) o
set_option maxRecDepth 10000 in
theorem t_X12_init_318 (l : Launch) (E : En) (c0 s0 : Nat) (l0 : Nat) (m : Mm) (o : Prop) : Mh wU l E mi_X12_init c0 s0 318 [(0, .ref l0)] [] m o (f_X12_init_318 l0 m o) := by
  refine Mh_aload_n 0 rfl dX12_init_318 ?_
  refine Mh_bipush (v := 24) dX12_init_319 (by decide) ?_
  refine Mh_nar 22 2 24 .boolean (.inr (.inr (.inl rfl))) rfl rfl (fun _ _ h => h) (.inr ⟨by decide, rfl⟩) nar_22 (by decide) (by decide) (by decide) dX12_init_321 ?_
  exact t_X12_init_323 l E c0 s0 _ _ _ _ _
def f_X12_init_315 (l0 : Nat) (y1 : Nat) (y0 : Nat) (m : Mm) (o : Prop) : Unit × Mm × Prop := f_X12_init_318 l0 (sR m y0 57 y1) (o ∧ (gT m y0 = 12 ∧ y1 ≠ 0))
set_option maxRecDepth 10000 in
theorem t_X12_init_315 (l : Launch) (E : En) (c0 s0 : Nat) (l0 : Nat) (y1 : Nat) (y0 : Nat) (m : Mm) (o : Prop) : Mh wU l E mi_X12_init c0 s0 315 [(0, .ref l0)] [.ref y1, .ref y0] m o (f_X12_init_315 l0 y1 y0 m o) := by
  refine Mh_pR fd_11_57 ft_11 (.inr ⟨_, rfl⟩) fl_RX12_127 (.inr ⟨rfl, rfl, rfl, flg_RX12_127⟩) dX12_init_315 ?_
  exact t_X12_init_318 l E c0 s0 _ _ _
def f_X12_init_310 (l0 : Nat) (m : Mm) (o : Prop) : Unit × Mm × Prop := f_X12_init_315 l0 (gC m + 1) l0 (nC m 20 24 24) o
set_option maxRecDepth 10000 in
theorem t_X12_init_310 (l : Launch) (E : En) (c0 s0 : Nat) (l0 : Nat) (m : Mm) (o : Prop) : Mh wU l E mi_X12_init c0 s0 310 [(0, .ref l0)] [] m o (f_X12_init_310 l0 m o) := by
  refine Mh_aload_n 0 rfl dX12_init_310 ?_
  refine Mh_bipush (v := 24) dX12_init_311 (by decide) ?_
  refine Mh_nar 20 0 24 .int (.inl rfl) rfl rfl (fun _ _ h => h) (.inr ⟨by decide, rfl⟩) nar_20 (by decide) (by decide) (by decide) dX12_init_313 ?_
  exact t_X12_init_315 l E c0 s0 _ _ _ _ _
def f_X12_init_307 (l0 : Nat) (y1 : Nat) (y0 : Nat) (m : Mm) (o : Prop) : Unit × Mm × Prop := f_X12_init_310 l0 (sR m y0 56 y1) (o ∧ (gT m y0 = 12 ∧ y1 ≠ 0))
set_option maxRecDepth 10000 in
theorem t_X12_init_307 (l : Launch) (E : En) (c0 s0 : Nat) (l0 : Nat) (y1 : Nat) (y0 : Nat) (m : Mm) (o : Prop) : Mh wU l E mi_X12_init c0 s0 307 [(0, .ref l0)] [.ref y1, .ref y0] m o (f_X12_init_307 l0 y1 y0 m o) := by
  refine Mh_pR fd_11_56 ft_11 (.inr ⟨_, rfl⟩) fl_RX12_124 (.inr ⟨rfl, rfl, rfl, flg_RX12_124⟩) dX12_init_307 ?_
  exact t_X12_init_310 l E c0 s0 _ _ _
def f_X12_init_302 (l0 : Nat) (m : Mm) (o : Prop) : Unit × Mm × Prop := f_X12_init_307 l0 (gC m + 1) l0 (nC m 20 24 24) o
set_option maxRecDepth 10000 in
theorem t_X12_init_302 (l : Launch) (E : En) (c0 s0 : Nat) (l0 : Nat) (m : Mm) (o : Prop) : Mh wU l E mi_X12_init c0 s0 302 [(0, .ref l0)] [] m o (f_X12_init_302 l0 m o) := by
  refine Mh_aload_n 0 rfl dX12_init_302 ?_
  refine Mh_bipush (v := 24) dX12_init_303 (by decide) ?_
  refine Mh_nar 20 0 24 .int (.inl rfl) rfl rfl (fun _ _ h => h) (.inr ⟨by decide, rfl⟩) nar_20 (by decide) (by decide) (by decide) dX12_init_305 ?_
  exact t_X12_init_307 l E c0 s0 _ _ _ _ _
def f_X12_init_299 (l0 : Nat) (y1 : Nat) (y0 : Nat) (m : Mm) (o : Prop) : Unit × Mm × Prop := f_X12_init_302 l0 (sR m y0 55 y1) (o ∧ (gT m y0 = 12 ∧ y1 ≠ 0))
set_option maxRecDepth 10000 in
theorem t_X12_init_299 (l : Launch) (E : En) (c0 s0 : Nat) (l0 : Nat) (y1 : Nat) (y0 : Nat) (m : Mm) (o : Prop) : Mh wU l E mi_X12_init c0 s0 299 [(0, .ref l0)] [.ref y1, .ref y0] m o (f_X12_init_299 l0 y1 y0 m o) := by
  refine Mh_pR fd_11_55 ft_11 (.inr ⟨_, rfl⟩) fl_RX12_121 (.inr ⟨rfl, rfl, rfl, flg_RX12_121⟩) dX12_init_299 ?_
  exact t_X12_init_302 l E c0 s0 _ _ _
def f_X12_init_294 (l0 : Nat) (m : Mm) (o : Prop) : Unit × Mm × Prop := f_X12_init_299 l0 (gC m + 1) l0 (nC m 20 24 24) o
set_option maxRecDepth 10000 in
theorem t_X12_init_294 (l : Launch) (E : En) (c0 s0 : Nat) (l0 : Nat) (m : Mm) (o : Prop) : Mh wU l E mi_X12_init c0 s0 294 [(0, .ref l0)] [] m o (f_X12_init_294 l0 m o) := by
  refine Mh_aload_n 0 rfl dX12_init_294 ?_
  refine Mh_bipush (v := 24) dX12_init_295 (by decide) ?_
  refine Mh_nar 20 0 24 .int (.inl rfl) rfl rfl (fun _ _ h => h) (.inr ⟨by decide, rfl⟩) nar_20 (by decide) (by decide) (by decide) dX12_init_297 ?_
  exact t_X12_init_299 l E c0 s0 _ _ _ _ _
def f_X12_init_291 (l0 : Nat) (y1 : Nat) (y0 : Nat) (m : Mm) (o : Prop) : Unit × Mm × Prop := f_X12_init_294 l0 (sR m y0 54 y1) (o ∧ (gT m y0 = 12 ∧ y1 ≠ 0))
set_option maxRecDepth 10000 in
theorem t_X12_init_291 (l : Launch) (E : En) (c0 s0 : Nat) (l0 : Nat) (y1 : Nat) (y0 : Nat) (m : Mm) (o : Prop) : Mh wU l E mi_X12_init c0 s0 291 [(0, .ref l0)] [.ref y1, .ref y0] m o (f_X12_init_291 l0 y1 y0 m o) := by
  refine Mh_pR fd_11_54 ft_11 (.inr ⟨_, rfl⟩) fl_RX12_118 (.inr ⟨rfl, rfl, rfl, flg_RX12_118⟩) dX12_init_291 ?_
  exact t_X12_init_294 l E c0 s0 _ _ _
def f_X12_init_286 (l0 : Nat) (m : Mm) (o : Prop) : Unit × Mm × Prop := f_X12_init_291 l0 (gC m + 1) l0 (nC m 20 24 24) o
set_option maxRecDepth 10000 in
theorem t_X12_init_286 (l : Launch) (E : En) (c0 s0 : Nat) (l0 : Nat) (m : Mm) (o : Prop) : Mh wU l E mi_X12_init c0 s0 286 [(0, .ref l0)] [] m o (f_X12_init_286 l0 m o) := by
  refine Mh_aload_n 0 rfl dX12_init_286 ?_
  refine Mh_bipush (v := 24) dX12_init_287 (by decide) ?_
  refine Mh_nar 20 0 24 .int (.inl rfl) rfl rfl (fun _ _ h => h) (.inr ⟨by decide, rfl⟩) nar_20 (by decide) (by decide) (by decide) dX12_init_289 ?_
  exact t_X12_init_291 l E c0 s0 _ _ _ _ _
def f_X12_init_283 (l0 : Nat) (y1 : Nat) (y0 : Nat) (m : Mm) (o : Prop) : Unit × Mm × Prop := f_X12_init_286 l0 (sR m y0 53 y1) (o ∧ (gT m y0 = 12 ∧ y1 ≠ 0))
set_option maxRecDepth 10000 in
theorem t_X12_init_283 (l : Launch) (E : En) (c0 s0 : Nat) (l0 : Nat) (y1 : Nat) (y0 : Nat) (m : Mm) (o : Prop) : Mh wU l E mi_X12_init c0 s0 283 [(0, .ref l0)] [.ref y1, .ref y0] m o (f_X12_init_283 l0 y1 y0 m o) := by
  refine Mh_pR fd_11_53 ft_11 (.inr ⟨_, rfl⟩) fl_RX12_115 (.inr ⟨rfl, rfl, rfl, flg_RX12_115⟩) dX12_init_283 ?_
  exact t_X12_init_286 l E c0 s0 _ _ _
def f_X12_init_278 (l0 : Nat) (m : Mm) (o : Prop) : Unit × Mm × Prop := f_X12_init_283 l0 (gC m + 1) l0 (nC m 20 24 24) o
set_option maxRecDepth 10000 in
theorem t_X12_init_278 (l : Launch) (E : En) (c0 s0 : Nat) (l0 : Nat) (m : Mm) (o : Prop) : Mh wU l E mi_X12_init c0 s0 278 [(0, .ref l0)] [] m o (f_X12_init_278 l0 m o) := by
  refine Mh_aload_n 0 rfl dX12_init_278 ?_
  refine Mh_bipush (v := 24) dX12_init_279 (by decide) ?_
  refine Mh_nar 20 0 24 .int (.inl rfl) rfl rfl (fun _ _ h => h) (.inr ⟨by decide, rfl⟩) nar_20 (by decide) (by decide) (by decide) dX12_init_281 ?_
  exact t_X12_init_283 l E c0 s0 _ _ _ _ _
def f_X12_init_275 (l0 : Nat) (y1 : Nat) (y0 : Nat) (m : Mm) (o : Prop) : Unit × Mm × Prop := f_X12_init_278 l0 (sR m y0 52 y1) (o ∧ (gT m y0 = 12 ∧ y1 ≠ 0))
set_option maxRecDepth 10000 in
theorem t_X12_init_275 (l : Launch) (E : En) (c0 s0 : Nat) (l0 : Nat) (y1 : Nat) (y0 : Nat) (m : Mm) (o : Prop) : Mh wU l E mi_X12_init c0 s0 275 [(0, .ref l0)] [.ref y1, .ref y0] m o (f_X12_init_275 l0 y1 y0 m o) := by
  refine Mh_pR fd_11_52 ft_11 (.inr ⟨_, rfl⟩) fl_RX12_112 (.inr ⟨rfl, rfl, rfl, flg_RX12_112⟩) dX12_init_275 ?_
  exact t_X12_init_278 l E c0 s0 _ _ _
def f_X12_init_270 (l0 : Nat) (m : Mm) (o : Prop) : Unit × Mm × Prop := f_X12_init_275 l0 (gC m + 1) l0 (nC m 20 24 24) o
set_option maxRecDepth 10000 in
theorem t_X12_init_270 (l : Launch) (E : En) (c0 s0 : Nat) (l0 : Nat) (m : Mm) (o : Prop) : Mh wU l E mi_X12_init c0 s0 270 [(0, .ref l0)] [] m o (f_X12_init_270 l0 m o) := by
  refine Mh_aload_n 0 rfl dX12_init_270 ?_
  refine Mh_bipush (v := 24) dX12_init_271 (by decide) ?_
  refine Mh_nar 20 0 24 .int (.inl rfl) rfl rfl (fun _ _ h => h) (.inr ⟨by decide, rfl⟩) nar_20 (by decide) (by decide) (by decide) dX12_init_273 ?_
  exact t_X12_init_275 l E c0 s0 _ _ _ _ _
def f_X12_init_267 (l0 : Nat) (y1 : Nat) (y0 : Nat) (m : Mm) (o : Prop) : Unit × Mm × Prop := f_X12_init_270 l0 (sR m y0 49 y1) (o ∧ (gT m y0 = 12 ∧ y1 ≠ 0))
set_option maxRecDepth 10000 in
theorem t_X12_init_267 (l : Launch) (E : En) (c0 s0 : Nat) (l0 : Nat) (y1 : Nat) (y0 : Nat) (m : Mm) (o : Prop) : Mh wU l E mi_X12_init c0 s0 267 [(0, .ref l0)] [.ref y1, .ref y0] m o (f_X12_init_267 l0 y1 y0 m o) := by
  refine Mh_pR fd_11_49 ft_11 (.inr ⟨_, rfl⟩) fl_RX12_109 (.inr ⟨rfl, rfl, rfl, flg_RX12_109⟩) dX12_init_267 ?_
  exact t_X12_init_270 l E c0 s0 _ _ _
def f_X12_init_262 (l0 : Nat) (m : Mm) (o : Prop) : Unit × Mm × Prop := f_X12_init_267 l0 (gC m + 1) l0 (nC m 20 16 16) o
set_option maxRecDepth 10000 in
theorem t_X12_init_262 (l : Launch) (E : En) (c0 s0 : Nat) (l0 : Nat) (m : Mm) (o : Prop) : Mh wU l E mi_X12_init c0 s0 262 [(0, .ref l0)] [] m o (f_X12_init_262 l0 m o) := by
  refine Mh_aload_n 0 rfl dX12_init_262 ?_
  refine Mh_bipush (v := 16) dX12_init_263 (by decide) ?_
  refine Mh_nar 20 0 16 .int (.inl rfl) rfl rfl (fun _ _ h => h) (.inr ⟨by decide, rfl⟩) nar_20 (by decide) (by decide) (by decide) dX12_init_265 ?_
  exact t_X12_init_267 l E c0 s0 _ _ _ _ _
def f_X12_init_259 (l0 : Nat) (y1 : Nat) (y0 : Nat) (m : Mm) (o : Prop) : Unit × Mm × Prop := f_X12_init_262 l0 (sR m y0 48 y1) (o ∧ (gT m y0 = 12 ∧ y1 ≠ 0))
set_option maxRecDepth 10000 in
theorem t_X12_init_259 (l : Launch) (E : En) (c0 s0 : Nat) (l0 : Nat) (y1 : Nat) (y0 : Nat) (m : Mm) (o : Prop) : Mh wU l E mi_X12_init c0 s0 259 [(0, .ref l0)] [.ref y1, .ref y0] m o (f_X12_init_259 l0 y1 y0 m o) := by
  refine Mh_pR fd_11_48 ft_11 (.inr ⟨_, rfl⟩) fl_RX12_106 (.inr ⟨rfl, rfl, rfl, flg_RX12_106⟩) dX12_init_259 ?_
  exact t_X12_init_262 l E c0 s0 _ _ _
def f_X12_init_253 (l0 : Nat) (m : Mm) (o : Prop) : Unit × Mm × Prop := f_X12_init_259 l0 (gC m + 1) l0 (nC m 22 240 240) o
set_option maxRecDepth 10000 in
theorem t_X12_init_253 (l : Launch) (E : En) (c0 s0 : Nat) (l0 : Nat) (m : Mm) (o : Prop) : Mh wU l E mi_X12_init c0 s0 253 [(0, .ref l0)] [] m o (f_X12_init_253 l0 m o) := by
  refine Mh_aload_n 0 rfl dX12_init_253 ?_
  refine Mh_sipush (v := 240) dX12_init_254 (by decide) ?_
  refine Mh_nar 22 2 240 .boolean (.inr (.inr (.inl rfl))) rfl rfl (fun _ _ h => h) (.inr ⟨by decide, rfl⟩) nar_22 (by decide) (by decide) (by decide) dX12_init_257 ?_
  exact t_X12_init_259 l E c0 s0 _ _ _ _ _
def f_X12_init_250 (l0 : Nat) (y1 : Nat) (y0 : Nat) (m : Mm) (o : Prop) : Unit × Mm × Prop := f_X12_init_253 l0 (sR m y0 47 y1) (o ∧ (gT m y0 = 12 ∧ y1 ≠ 0))
set_option maxRecDepth 10000 in
theorem t_X12_init_250 (l : Launch) (E : En) (c0 s0 : Nat) (l0 : Nat) (y1 : Nat) (y0 : Nat) (m : Mm) (o : Prop) : Mh wU l E mi_X12_init c0 s0 250 [(0, .ref l0)] [.ref y1, .ref y0] m o (f_X12_init_250 l0 y1 y0 m o) := by
  refine Mh_pR fd_11_47 ft_11 (.inr ⟨_, rfl⟩) fl_RX12_103 (.inr ⟨rfl, rfl, rfl, flg_RX12_103⟩) dX12_init_250 ?_
  exact t_X12_init_253 l E c0 s0 _ _ _
def f_X12_init_244 (l0 : Nat) (m : Mm) (o : Prop) : Unit × Mm × Prop := f_X12_init_250 l0 (gC m + 1) l0 (nC m 20 240 240) o
set_option maxRecDepth 10000 in
theorem t_X12_init_244 (l : Launch) (E : En) (c0 s0 : Nat) (l0 : Nat) (m : Mm) (o : Prop) : Mh wU l E mi_X12_init c0 s0 244 [(0, .ref l0)] [] m o (f_X12_init_244 l0 m o) := by
  refine Mh_aload_n 0 rfl dX12_init_244 ?_
  refine Mh_sipush (v := 240) dX12_init_245 (by decide) ?_
  refine Mh_nar 20 0 240 .int (.inl rfl) rfl rfl (fun _ _ h => h) (.inr ⟨by decide, rfl⟩) nar_20 (by decide) (by decide) (by decide) dX12_init_248 ?_
  exact t_X12_init_250 l E c0 s0 _ _ _ _ _
def f_X12_init_241 (l0 : Nat) (y1 : Nat) (y0 : Nat) (m : Mm) (o : Prop) : Unit × Mm × Prop := f_X12_init_244 l0 (sR m y0 44 y1) (o ∧ (gT m y0 = 12 ∧ y1 ≠ 0))
set_option maxRecDepth 10000 in
theorem t_X12_init_241 (l : Launch) (E : En) (c0 s0 : Nat) (l0 : Nat) (y1 : Nat) (y0 : Nat) (m : Mm) (o : Prop) : Mh wU l E mi_X12_init c0 s0 241 [(0, .ref l0)] [.ref y1, .ref y0] m o (f_X12_init_241 l0 y1 y0 m o) := by
  refine Mh_pR fd_11_44 ft_11 (.inr ⟨_, rfl⟩) fl_RX12_100 (.inr ⟨rfl, rfl, rfl, flg_RX12_100⟩) dX12_init_241 ?_
  exact t_X12_init_244 l E c0 s0 _ _ _
def f_X12_init_235 (l0 : Nat) (m : Mm) (o : Prop) : Unit × Mm × Prop := f_X12_init_241 l0 (gC m + 1) l0 (nC m 20 240 240) o
set_option maxRecDepth 10000 in
theorem t_X12_init_235 (l : Launch) (E : En) (c0 s0 : Nat) (l0 : Nat) (m : Mm) (o : Prop) : Mh wU l E mi_X12_init c0 s0 235 [(0, .ref l0)] [] m o (f_X12_init_235 l0 m o) := by
  refine Mh_aload_n 0 rfl dX12_init_235 ?_
  refine Mh_sipush (v := 240) dX12_init_236 (by decide) ?_
  refine Mh_nar 20 0 240 .int (.inl rfl) rfl rfl (fun _ _ h => h) (.inr ⟨by decide, rfl⟩) nar_20 (by decide) (by decide) (by decide) dX12_init_239 ?_
  exact t_X12_init_241 l E c0 s0 _ _ _ _ _
def f_X12_init_232 (l0 : Nat) (y1 : Nat) (y0 : Nat) (m : Mm) (o : Prop) : Unit × Mm × Prop := f_X12_init_235 l0 (sR m y0 34 y1) (o ∧ (gT m y0 = 12 ∧ y1 ≠ 0))
set_option maxRecDepth 10000 in
theorem t_X12_init_232 (l : Launch) (E : En) (c0 s0 : Nat) (l0 : Nat) (y1 : Nat) (y0 : Nat) (m : Mm) (o : Prop) : Mh wU l E mi_X12_init c0 s0 232 [(0, .ref l0)] [.ref y1, .ref y0] m o (f_X12_init_232 l0 y1 y0 m o) := by
  refine Mh_pR fd_11_34 ft_11 (.inr ⟨_, rfl⟩) fl_RX12_97 (.inr ⟨rfl, rfl, rfl, flg_RX12_97⟩) dX12_init_232 ?_
  exact t_X12_init_235 l E c0 s0 _ _ _
def f_X12_init_226 (l0 : Nat) (m : Mm) (o : Prop) : Unit × Mm × Prop := f_X12_init_232 l0 (gC m + 1) l0 (nC m 20 200 200) o
set_option maxRecDepth 10000 in
theorem t_X12_init_226 (l : Launch) (E : En) (c0 s0 : Nat) (l0 : Nat) (m : Mm) (o : Prop) : Mh wU l E mi_X12_init c0 s0 226 [(0, .ref l0)] [] m o (f_X12_init_226 l0 m o) := by
  refine Mh_aload_n 0 rfl dX12_init_226 ?_
  refine Mh_sipush (v := 200) dX12_init_227 (by decide) ?_
  refine Mh_nar 20 0 200 .int (.inl rfl) rfl rfl (fun _ _ h => h) (.inr ⟨by decide, rfl⟩) nar_20 (by decide) (by decide) (by decide) dX12_init_230 ?_
  exact t_X12_init_232 l E c0 s0 _ _ _ _ _
def f_X12_init_223 (l0 : Nat) (y1 : Nat) (y0 : Nat) (m : Mm) (o : Prop) : Unit × Mm × Prop := f_X12_init_226 l0 (sR m y0 33 y1) (o ∧ (gT m y0 = 12 ∧ y1 ≠ 0))
set_option maxRecDepth 10000 in
theorem t_X12_init_223 (l : Launch) (E : En) (c0 s0 : Nat) (l0 : Nat) (y1 : Nat) (y0 : Nat) (m : Mm) (o : Prop) : Mh wU l E mi_X12_init c0 s0 223 [(0, .ref l0)] [.ref y1, .ref y0] m o (f_X12_init_223 l0 y1 y0 m o) := by
  refine Mh_pR fd_11_33 ft_11 (.inr ⟨_, rfl⟩) fl_RX12_94 (.inr ⟨rfl, rfl, rfl, flg_RX12_94⟩) dX12_init_223 ?_
  exact t_X12_init_226 l E c0 s0 _ _ _
def f_X12_init_217 (l0 : Nat) (m : Mm) (o : Prop) : Unit × Mm × Prop := f_X12_init_223 l0 (gC m + 1) l0 (nC m 20 200 200) o
set_option maxRecDepth 10000 in
theorem t_X12_init_217 (l : Launch) (E : En) (c0 s0 : Nat) (l0 : Nat) (m : Mm) (o : Prop) : Mh wU l E mi_X12_init c0 s0 217 [(0, .ref l0)] [] m o (f_X12_init_217 l0 m o) := by
  refine Mh_aload_n 0 rfl dX12_init_217 ?_
  refine Mh_sipush (v := 200) dX12_init_218 (by decide) ?_
  refine Mh_nar 20 0 200 .int (.inl rfl) rfl rfl (fun _ _ h => h) (.inr ⟨by decide, rfl⟩) nar_20 (by decide) (by decide) (by decide) dX12_init_221 ?_
  exact t_X12_init_223 l E c0 s0 _ _ _ _ _
def f_X12_init_214 (l0 : Nat) (y1 : Nat) (y0 : Nat) (m : Mm) (o : Prop) : Unit × Mm × Prop := f_X12_init_217 l0 (sR m y0 32 y1) (o ∧ (gT m y0 = 12 ∧ y1 ≠ 0))
set_option maxRecDepth 10000 in
theorem t_X12_init_214 (l : Launch) (E : En) (c0 s0 : Nat) (l0 : Nat) (y1 : Nat) (y0 : Nat) (m : Mm) (o : Prop) : Mh wU l E mi_X12_init c0 s0 214 [(0, .ref l0)] [.ref y1, .ref y0] m o (f_X12_init_214 l0 y1 y0 m o) := by
  refine Mh_pR fd_11_32 ft_11 (.inr ⟨_, rfl⟩) fl_RX12_91 (.inr ⟨rfl, rfl, rfl, flg_RX12_91⟩) dX12_init_214 ?_
  exact t_X12_init_217 l E c0 s0 _ _ _
def f_X12_init_209 (l0 : Nat) (m : Mm) (o : Prop) : Unit × Mm × Prop := f_X12_init_214 l0 (gC m + 1) l0 (nC m 20 14 14) o
set_option maxRecDepth 10000 in
theorem t_X12_init_209 (l : Launch) (E : En) (c0 s0 : Nat) (l0 : Nat) (m : Mm) (o : Prop) : Mh wU l E mi_X12_init c0 s0 209 [(0, .ref l0)] [] m o (f_X12_init_209 l0 m o) := by
  refine Mh_aload_n 0 rfl dX12_init_209 ?_
  refine Mh_bipush (v := 14) dX12_init_210 (by decide) ?_
  refine Mh_nar 20 0 14 .int (.inl rfl) rfl rfl (fun _ _ h => h) (.inr ⟨by decide, rfl⟩) nar_20 (by decide) (by decide) (by decide) dX12_init_212 ?_
  exact t_X12_init_214 l E c0 s0 _ _ _ _ _
def f_X12_init_206 (l0 : Nat) (y1 : Nat) (y0 : Nat) (m : Mm) (o : Prop) : Unit × Mm × Prop := f_X12_init_209 l0 (sR m y0 31 y1) (o ∧ (gT m y0 = 12 ∧ y1 ≠ 0))
set_option maxRecDepth 10000 in
theorem t_X12_init_206 (l : Launch) (E : En) (c0 s0 : Nat) (l0 : Nat) (y1 : Nat) (y0 : Nat) (m : Mm) (o : Prop) : Mh wU l E mi_X12_init c0 s0 206 [(0, .ref l0)] [.ref y1, .ref y0] m o (f_X12_init_206 l0 y1 y0 m o) := by
  refine Mh_pR fd_11_31 ft_11 (.inr ⟨_, rfl⟩) fl_RX12_88 (.inr ⟨rfl, rfl, rfl, flg_RX12_88⟩) dX12_init_206 ?_
  exact t_X12_init_209 l E c0 s0 _ _ _
def f_X12_init_201 (l0 : Nat) (m : Mm) (o : Prop) : Unit × Mm × Prop := f_X12_init_206 l0 (gC m + 1) l0 (nC m 20 14 14) o
set_option maxRecDepth 10000 in
theorem t_X12_init_201 (l : Launch) (E : En) (c0 s0 : Nat) (l0 : Nat) (m : Mm) (o : Prop) : Mh wU l E mi_X12_init c0 s0 201 [(0, .ref l0)] [] m o (f_X12_init_201 l0 m o) := by
  refine Mh_aload_n 0 rfl dX12_init_201 ?_
  refine Mh_bipush (v := 14) dX12_init_202 (by decide) ?_
  refine Mh_nar 20 0 14 .int (.inl rfl) rfl rfl (fun _ _ h => h) (.inr ⟨by decide, rfl⟩) nar_20 (by decide) (by decide) (by decide) dX12_init_204 ?_
  exact t_X12_init_206 l E c0 s0 _ _ _ _ _
def f_X12_init_198 (l0 : Nat) (y1 : Nat) (y0 : Nat) (m : Mm) (o : Prop) : Unit × Mm × Prop := f_X12_init_201 l0 (sR m y0 30 y1) (o ∧ (gT m y0 = 12 ∧ y1 ≠ 0))
set_option maxRecDepth 10000 in
theorem t_X12_init_198 (l : Launch) (E : En) (c0 s0 : Nat) (l0 : Nat) (y1 : Nat) (y0 : Nat) (m : Mm) (o : Prop) : Mh wU l E mi_X12_init c0 s0 198 [(0, .ref l0)] [.ref y1, .ref y0] m o (f_X12_init_198 l0 y1 y0 m o) := by
  refine Mh_pR fd_11_30 ft_11 (.inr ⟨_, rfl⟩) fl_RX12_85 (.inr ⟨rfl, rfl, rfl, flg_RX12_85⟩) dX12_init_198 ?_
  exact t_X12_init_201 l E c0 s0 _ _ _
def f_X12_init_193 (l0 : Nat) (m : Mm) (o : Prop) : Unit × Mm × Prop := f_X12_init_198 l0 (gC m + 1) l0 (nC m 20 14 14) o
set_option maxRecDepth 10000 in
theorem t_X12_init_193 (l : Launch) (E : En) (c0 s0 : Nat) (l0 : Nat) (m : Mm) (o : Prop) : Mh wU l E mi_X12_init c0 s0 193 [(0, .ref l0)] [] m o (f_X12_init_193 l0 m o) := by
  refine Mh_aload_n 0 rfl dX12_init_193 ?_
  refine Mh_bipush (v := 14) dX12_init_194 (by decide) ?_
  refine Mh_nar 20 0 14 .int (.inl rfl) rfl rfl (fun _ _ h => h) (.inr ⟨by decide, rfl⟩) nar_20 (by decide) (by decide) (by decide) dX12_init_196 ?_
  exact t_X12_init_198 l E c0 s0 _ _ _ _ _
def f_X12_init_190 (l0 : Nat) (y1 : Nat) (y0 : Nat) (m : Mm) (o : Prop) : Unit × Mm × Prop := f_X12_init_193 l0 (sR m y0 29 y1) (o ∧ (gT m y0 = 12 ∧ y1 ≠ 0))
set_option maxRecDepth 10000 in
theorem t_X12_init_190 (l : Launch) (E : En) (c0 s0 : Nat) (l0 : Nat) (y1 : Nat) (y0 : Nat) (m : Mm) (o : Prop) : Mh wU l E mi_X12_init c0 s0 190 [(0, .ref l0)] [.ref y1, .ref y0] m o (f_X12_init_190 l0 y1 y0 m o) := by
  refine Mh_pR fd_11_29 ft_11 (.inr ⟨_, rfl⟩) fl_RX12_82 (.inr ⟨rfl, rfl, rfl, flg_RX12_82⟩) dX12_init_190 ?_
  exact t_X12_init_193 l E c0 s0 _ _ _
def f_X12_init_185 (l0 : Nat) (m : Mm) (o : Prop) : Unit × Mm × Prop := f_X12_init_190 l0 (gC m + 1) l0 (nC m 20 14 14) o
set_option maxRecDepth 10000 in
theorem t_X12_init_185 (l : Launch) (E : En) (c0 s0 : Nat) (l0 : Nat) (m : Mm) (o : Prop) : Mh wU l E mi_X12_init c0 s0 185 [(0, .ref l0)] [] m o (f_X12_init_185 l0 m o) := by
  refine Mh_aload_n 0 rfl dX12_init_185 ?_
  refine Mh_bipush (v := 14) dX12_init_186 (by decide) ?_
  refine Mh_nar 20 0 14 .int (.inl rfl) rfl rfl (fun _ _ h => h) (.inr ⟨by decide, rfl⟩) nar_20 (by decide) (by decide) (by decide) dX12_init_188 ?_
  exact t_X12_init_190 l E c0 s0 _ _ _ _ _
def f_X12_init_182 (l0 : Nat) (y1 : Nat) (y0 : Nat) (m : Mm) (o : Prop) : Unit × Mm × Prop := f_X12_init_185 l0 (sR m y0 28 y1) (o ∧ (gT m y0 = 12 ∧ y1 ≠ 0))
set_option maxRecDepth 10000 in
theorem t_X12_init_182 (l : Launch) (E : En) (c0 s0 : Nat) (l0 : Nat) (y1 : Nat) (y0 : Nat) (m : Mm) (o : Prop) : Mh wU l E mi_X12_init c0 s0 182 [(0, .ref l0)] [.ref y1, .ref y0] m o (f_X12_init_182 l0 y1 y0 m o) := by
  refine Mh_pR fd_11_28 ft_11 (.inr ⟨_, rfl⟩) fl_RX12_79 (.inr ⟨rfl, rfl, rfl, flg_RX12_79⟩) dX12_init_182 ?_
  exact t_X12_init_185 l E c0 s0 _ _ _
def f_X12_init_176 (l0 : Nat) (m : Mm) (o : Prop) : Unit × Mm × Prop := f_X12_init_182 l0 (gC m + 1) l0 (nC m 20 200 200) o
set_option maxRecDepth 10000 in
theorem t_X12_init_176 (l : Launch) (E : En) (c0 s0 : Nat) (l0 : Nat) (m : Mm) (o : Prop) : Mh wU l E mi_X12_init c0 s0 176 [(0, .ref l0)] [] m o (f_X12_init_176 l0 m o) := by
  refine Mh_aload_n 0 rfl dX12_init_176 ?_
  refine Mh_sipush (v := 200) dX12_init_177 (by decide) ?_
  refine Mh_nar 20 0 200 .int (.inl rfl) rfl rfl (fun _ _ h => h) (.inr ⟨by decide, rfl⟩) nar_20 (by decide) (by decide) (by decide) dX12_init_180 ?_
  exact t_X12_init_182 l E c0 s0 _ _ _ _ _
def f_X12_init_173 (l0 : Nat) (y1 : Nat) (y0 : Nat) (m : Mm) (o : Prop) : Unit × Mm × Prop := f_X12_init_176 l0 (sR m y0 27 y1) (o ∧ (gT m y0 = 12 ∧ y1 ≠ 0))
set_option maxRecDepth 10000 in
theorem t_X12_init_173 (l : Launch) (E : En) (c0 s0 : Nat) (l0 : Nat) (y1 : Nat) (y0 : Nat) (m : Mm) (o : Prop) : Mh wU l E mi_X12_init c0 s0 173 [(0, .ref l0)] [.ref y1, .ref y0] m o (f_X12_init_173 l0 y1 y0 m o) := by
  refine Mh_pR fd_11_27 ft_11 (.inr ⟨_, rfl⟩) fl_RX12_76 (.inr ⟨rfl, rfl, rfl, flg_RX12_76⟩) dX12_init_173 ?_
  exact t_X12_init_176 l E c0 s0 _ _ _
def f_X12_init_167 (l0 : Nat) (m : Mm) (o : Prop) : Unit × Mm × Prop := f_X12_init_173 l0 (gC m + 1) l0 (nC m 20 200 200) o
set_option maxRecDepth 10000 in
theorem t_X12_init_167 (l : Launch) (E : En) (c0 s0 : Nat) (l0 : Nat) (m : Mm) (o : Prop) : Mh wU l E mi_X12_init c0 s0 167 [(0, .ref l0)] [] m o (f_X12_init_167 l0 m o) := by
  refine Mh_aload_n 0 rfl dX12_init_167 ?_
  refine Mh_sipush (v := 200) dX12_init_168 (by decide) ?_
  refine Mh_nar 20 0 200 .int (.inl rfl) rfl rfl (fun _ _ h => h) (.inr ⟨by decide, rfl⟩) nar_20 (by decide) (by decide) (by decide) dX12_init_171 ?_
  exact t_X12_init_173 l E c0 s0 _ _ _ _ _
def f_X12_init_164 (l0 : Nat) (y1 : Nat) (y0 : Nat) (m : Mm) (o : Prop) : Unit × Mm × Prop := f_X12_init_167 l0 (sR m y0 26 y1) (o ∧ (gT m y0 = 12 ∧ y1 ≠ 0))
set_option maxRecDepth 10000 in
theorem t_X12_init_164 (l : Launch) (E : En) (c0 s0 : Nat) (l0 : Nat) (y1 : Nat) (y0 : Nat) (m : Mm) (o : Prop) : Mh wU l E mi_X12_init c0 s0 164 [(0, .ref l0)] [.ref y1, .ref y0] m o (f_X12_init_164 l0 y1 y0 m o) := by
  refine Mh_pR fd_11_26 ft_11 (.inr ⟨_, rfl⟩) fl_RX12_73 (.inr ⟨rfl, rfl, rfl, flg_RX12_73⟩) dX12_init_164 ?_
  exact t_X12_init_167 l E c0 s0 _ _ _
def f_X12_init_159 (l0 : Nat) (m : Mm) (o : Prop) : Unit × Mm × Prop := f_X12_init_164 l0 (gC m + 1) l0 (nC m 20 14 14) o
set_option maxRecDepth 10000 in
theorem t_X12_init_159 (l : Launch) (E : En) (c0 s0 : Nat) (l0 : Nat) (m : Mm) (o : Prop) : Mh wU l E mi_X12_init c0 s0 159 [(0, .ref l0)] [] m o (f_X12_init_159 l0 m o) := by
  refine Mh_aload_n 0 rfl dX12_init_159 ?_
  refine Mh_bipush (v := 14) dX12_init_160 (by decide) ?_
  refine Mh_nar 20 0 14 .int (.inl rfl) rfl rfl (fun _ _ h => h) (.inr ⟨by decide, rfl⟩) nar_20 (by decide) (by decide) (by decide) dX12_init_162 ?_
  exact t_X12_init_164 l E c0 s0 _ _ _ _ _
def f_X12_init_156 (l0 : Nat) (y1 : Nat) (y0 : Nat) (m : Mm) (o : Prop) : Unit × Mm × Prop := f_X12_init_159 l0 (sR m y0 25 y1) (o ∧ (gT m y0 = 12 ∧ y1 ≠ 0))
set_option maxRecDepth 10000 in
theorem t_X12_init_156 (l : Launch) (E : En) (c0 s0 : Nat) (l0 : Nat) (y1 : Nat) (y0 : Nat) (m : Mm) (o : Prop) : Mh wU l E mi_X12_init c0 s0 156 [(0, .ref l0)] [.ref y1, .ref y0] m o (f_X12_init_156 l0 y1 y0 m o) := by
  refine Mh_pR fd_11_25 ft_11 (.inr ⟨_, rfl⟩) fl_RX12_70 (.inr ⟨rfl, rfl, rfl, flg_RX12_70⟩) dX12_init_156 ?_
  exact t_X12_init_159 l E c0 s0 _ _ _
def f_X12_init_151 (l0 : Nat) (m : Mm) (o : Prop) : Unit × Mm × Prop := f_X12_init_156 l0 (gC m + 1) l0 (nC m 20 14 14) o
set_option maxRecDepth 10000 in
theorem t_X12_init_151 (l : Launch) (E : En) (c0 s0 : Nat) (l0 : Nat) (m : Mm) (o : Prop) : Mh wU l E mi_X12_init c0 s0 151 [(0, .ref l0)] [] m o (f_X12_init_151 l0 m o) := by
  refine Mh_aload_n 0 rfl dX12_init_151 ?_
  refine Mh_bipush (v := 14) dX12_init_152 (by decide) ?_
  refine Mh_nar 20 0 14 .int (.inl rfl) rfl rfl (fun _ _ h => h) (.inr ⟨by decide, rfl⟩) nar_20 (by decide) (by decide) (by decide) dX12_init_154 ?_
  exact t_X12_init_156 l E c0 s0 _ _ _ _ _
def f_X12_init_148 (l0 : Nat) (y1 : Nat) (y0 : Nat) (m : Mm) (o : Prop) : Unit × Mm × Prop := f_X12_init_151 l0 (sR m y0 24 y1) (o ∧ (gT m y0 = 12 ∧ y1 ≠ 0))
set_option maxRecDepth 10000 in
theorem t_X12_init_148 (l : Launch) (E : En) (c0 s0 : Nat) (l0 : Nat) (y1 : Nat) (y0 : Nat) (m : Mm) (o : Prop) : Mh wU l E mi_X12_init c0 s0 148 [(0, .ref l0)] [.ref y1, .ref y0] m o (f_X12_init_148 l0 y1 y0 m o) := by
  refine Mh_pR fd_11_24 ft_11 (.inr ⟨_, rfl⟩) fl_RX12_67 (.inr ⟨rfl, rfl, rfl, flg_RX12_67⟩) dX12_init_148 ?_
  exact t_X12_init_151 l E c0 s0 _ _ _
def f_X12_init_143 (l0 : Nat) (m : Mm) (o : Prop) : Unit × Mm × Prop := f_X12_init_148 l0 (gC m + 1) l0 (nC m 20 14 14) o
set_option maxRecDepth 10000 in
theorem t_X12_init_143 (l : Launch) (E : En) (c0 s0 : Nat) (l0 : Nat) (m : Mm) (o : Prop) : Mh wU l E mi_X12_init c0 s0 143 [(0, .ref l0)] [] m o (f_X12_init_143 l0 m o) := by
  refine Mh_aload_n 0 rfl dX12_init_143 ?_
  refine Mh_bipush (v := 14) dX12_init_144 (by decide) ?_
  refine Mh_nar 20 0 14 .int (.inl rfl) rfl rfl (fun _ _ h => h) (.inr ⟨by decide, rfl⟩) nar_20 (by decide) (by decide) (by decide) dX12_init_146 ?_
  exact t_X12_init_148 l E c0 s0 _ _ _ _ _
def f_X12_init_140 (l0 : Nat) (y1 : Nat) (y0 : Nat) (m : Mm) (o : Prop) : Unit × Mm × Prop := f_X12_init_143 l0 (sR m y0 23 y1) (o ∧ (gT m y0 = 12 ∧ y1 ≠ 0))
set_option maxRecDepth 10000 in
theorem t_X12_init_140 (l : Launch) (E : En) (c0 s0 : Nat) (l0 : Nat) (y1 : Nat) (y0 : Nat) (m : Mm) (o : Prop) : Mh wU l E mi_X12_init c0 s0 140 [(0, .ref l0)] [.ref y1, .ref y0] m o (f_X12_init_140 l0 y1 y0 m o) := by
  refine Mh_pR fd_11_23 ft_11 (.inr ⟨_, rfl⟩) fl_RX12_64 (.inr ⟨rfl, rfl, rfl, flg_RX12_64⟩) dX12_init_140 ?_
  exact t_X12_init_143 l E c0 s0 _ _ _
def f_X12_init_135 (l0 : Nat) (m : Mm) (o : Prop) : Unit × Mm × Prop := f_X12_init_140 l0 (gC m + 1) l0 (nC m 20 14 14) o
set_option maxRecDepth 10000 in
theorem t_X12_init_135 (l : Launch) (E : En) (c0 s0 : Nat) (l0 : Nat) (m : Mm) (o : Prop) : Mh wU l E mi_X12_init c0 s0 135 [(0, .ref l0)] [] m o (f_X12_init_135 l0 m o) := by
  refine Mh_aload_n 0 rfl dX12_init_135 ?_
  refine Mh_bipush (v := 14) dX12_init_136 (by decide) ?_
  refine Mh_nar 20 0 14 .int (.inl rfl) rfl rfl (fun _ _ h => h) (.inr ⟨by decide, rfl⟩) nar_20 (by decide) (by decide) (by decide) dX12_init_138 ?_
  exact t_X12_init_140 l E c0 s0 _ _ _ _ _
def f_X12_init_132 (l0 : Nat) (y1 : Nat) (y0 : Nat) (m : Mm) (o : Prop) : Unit × Mm × Prop := f_X12_init_135 l0 (sR m y0 21 y1) (o ∧ (gT m y0 = 12 ∧ y1 ≠ 0))
set_option maxRecDepth 10000 in
theorem t_X12_init_132 (l : Launch) (E : En) (c0 s0 : Nat) (l0 : Nat) (y1 : Nat) (y0 : Nat) (m : Mm) (o : Prop) : Mh wU l E mi_X12_init c0 s0 132 [(0, .ref l0)] [.ref y1, .ref y0] m o (f_X12_init_132 l0 y1 y0 m o) := by
  refine Mh_pR fd_11_21 ft_11 (.inr ⟨_, rfl⟩) fl_RX12_61 (.inr ⟨rfl, rfl, rfl, flg_RX12_61⟩) dX12_init_132 ?_
  exact t_X12_init_135 l E c0 s0 _ _ _
def f_X12_init_126 (l0 : Nat) (m : Mm) (o : Prop) : Unit × Mm × Prop := f_X12_init_132 l0 (gC m + 1) l0 (nC m 20 192 192) o
set_option maxRecDepth 10000 in
theorem t_X12_init_126 (l : Launch) (E : En) (c0 s0 : Nat) (l0 : Nat) (m : Mm) (o : Prop) : Mh wU l E mi_X12_init c0 s0 126 [(0, .ref l0)] [] m o (f_X12_init_126 l0 m o) := by
  refine Mh_aload_n 0 rfl dX12_init_126 ?_
  refine Mh_sipush (v := 192) dX12_init_127 (by decide) ?_
  refine Mh_nar 20 0 192 .int (.inl rfl) rfl rfl (fun _ _ h => h) (.inr ⟨by decide, rfl⟩) nar_20 (by decide) (by decide) (by decide) dX12_init_130 ?_
  exact t_X12_init_132 l E c0 s0 _ _ _ _ _
def f_X12_init_123 (l0 : Nat) (y1 : Nat) (y0 : Nat) (m : Mm) (o : Prop) : Unit × Mm × Prop := f_X12_init_126 l0 (sR m y0 20 y1) (o ∧ (gT m y0 = 12 ∧ y1 ≠ 0))
set_option maxRecDepth 10000 in
theorem t_X12_init_123 (l : Launch) (E : En) (c0 s0 : Nat) (l0 : Nat) (y1 : Nat) (y0 : Nat) (m : Mm) (o : Prop) : Mh wU l E mi_X12_init c0 s0 123 [(0, .ref l0)] [.ref y1, .ref y0] m o (f_X12_init_123 l0 y1 y0 m o) := by
  refine Mh_pR fd_11_20 ft_11 (.inr ⟨_, rfl⟩) fl_RX12_58 (.inr ⟨rfl, rfl, rfl, flg_RX12_58⟩) dX12_init_123 ?_
  exact t_X12_init_126 l E c0 s0 _ _ _
def f_X12_init_119 (l0 : Nat) (m : Mm) (o : Prop) : Unit × Mm × Prop := f_X12_init_123 l0 (gC m + 1) l0 (nC m 20 5 5) o
set_option maxRecDepth 10000 in
theorem t_X12_init_119 (l : Launch) (E : En) (c0 s0 : Nat) (l0 : Nat) (m : Mm) (o : Prop) : Mh wU l E mi_X12_init c0 s0 119 [(0, .ref l0)] [] m o (f_X12_init_119 l0 m o) := by
  refine Mh_aload_n 0 rfl dX12_init_119 ?_
  refine Mh_iconst (v := 5) dX12_init_120 (by decide) ?_
  refine Mh_nar 20 0 5 .int (.inl rfl) rfl rfl (fun _ _ h => h) (.inr ⟨by decide, rfl⟩) nar_20 (by decide) (by decide) (by decide) dX12_init_121 ?_
  exact t_X12_init_123 l E c0 s0 _ _ _ _ _
def f_X12_init_116 (l0 : Nat) (y1 : Nat) (y0 : Nat) (m : Mm) (o : Prop) : Unit × Mm × Prop := f_X12_init_119 l0 (sR m y0 19 y1) (o ∧ (gT m y0 = 12 ∧ y1 ≠ 0))
set_option maxRecDepth 10000 in
theorem t_X12_init_116 (l : Launch) (E : En) (c0 s0 : Nat) (l0 : Nat) (y1 : Nat) (y0 : Nat) (m : Mm) (o : Prop) : Mh wU l E mi_X12_init c0 s0 116 [(0, .ref l0)] [.ref y1, .ref y0] m o (f_X12_init_116 l0 y1 y0 m o) := by
  refine Mh_pR fd_11_19 ft_11 (.inr ⟨_, rfl⟩) fl_RX12_55 (.inr ⟨rfl, rfl, rfl, flg_RX12_55⟩) dX12_init_116 ?_
  exact t_X12_init_119 l E c0 s0 _ _ _
def f_X12_init_111 (l0 : Nat) (m : Mm) (o : Prop) : Unit × Mm × Prop := f_X12_init_116 l0 (gC m + 1) l0 (nC m 20 80 80) o
set_option maxRecDepth 10000 in
theorem t_X12_init_111 (l : Launch) (E : En) (c0 s0 : Nat) (l0 : Nat) (m : Mm) (o : Prop) : Mh wU l E mi_X12_init c0 s0 111 [(0, .ref l0)] [] m o (f_X12_init_111 l0 m o) := by
  refine Mh_aload_n 0 rfl dX12_init_111 ?_
  refine Mh_bipush (v := 80) dX12_init_112 (by decide) ?_
  refine Mh_nar 20 0 80 .int (.inl rfl) rfl rfl (fun _ _ h => h) (.inr ⟨by decide, rfl⟩) nar_20 (by decide) (by decide) (by decide) dX12_init_114 ?_
  exact t_X12_init_116 l E c0 s0 _ _ _ _ _
def f_X12_init_108 (l0 : Nat) (y1 : Nat) (y0 : Nat) (m : Mm) (o : Prop) : Unit × Mm × Prop := f_X12_init_111 l0 (sR m y0 18 y1) (o ∧ (gT m y0 = 12 ∧ y1 ≠ 0))
set_option maxRecDepth 10000 in
theorem t_X12_init_108 (l : Launch) (E : En) (c0 s0 : Nat) (l0 : Nat) (y1 : Nat) (y0 : Nat) (m : Mm) (o : Prop) : Mh wU l E mi_X12_init c0 s0 108 [(0, .ref l0)] [.ref y1, .ref y0] m o (f_X12_init_108 l0 y1 y0 m o) := by
  refine Mh_pR fd_11_18 ft_11 (.inr ⟨_, rfl⟩) fl_RX12_52 (.inr ⟨rfl, rfl, rfl, flg_RX12_52⟩) dX12_init_108 ?_
  exact t_X12_init_111 l E c0 s0 _ _ _
def f_X12_init_103 (l0 : Nat) (m : Mm) (o : Prop) : Unit × Mm × Prop := f_X12_init_108 l0 (gC m + 1) l0 (nC m 20 16 16) o
set_option maxRecDepth 10000 in
theorem t_X12_init_103 (l : Launch) (E : En) (c0 s0 : Nat) (l0 : Nat) (m : Mm) (o : Prop) : Mh wU l E mi_X12_init c0 s0 103 [(0, .ref l0)] [] m o (f_X12_init_103 l0 m o) := by
  refine Mh_aload_n 0 rfl dX12_init_103 ?_
  refine Mh_bipush (v := 16) dX12_init_104 (by decide) ?_
  refine Mh_nar 20 0 16 .int (.inl rfl) rfl rfl (fun _ _ h => h) (.inr ⟨by decide, rfl⟩) nar_20 (by decide) (by decide) (by decide) dX12_init_106 ?_
  exact t_X12_init_108 l E c0 s0 _ _ _ _ _
def f_X12_init_100 (l0 : Nat) (y1 : Nat) (y0 : Nat) (m : Mm) (o : Prop) : Unit × Mm × Prop := f_X12_init_103 l0 (sR m y0 17 y1) (o ∧ (gT m y0 = 12 ∧ y1 ≠ 0))
set_option maxRecDepth 10000 in
theorem t_X12_init_100 (l : Launch) (E : En) (c0 s0 : Nat) (l0 : Nat) (y1 : Nat) (y0 : Nat) (m : Mm) (o : Prop) : Mh wU l E mi_X12_init c0 s0 100 [(0, .ref l0)] [.ref y1, .ref y0] m o (f_X12_init_100 l0 y1 y0 m o) := by
  refine Mh_pR fd_11_17 ft_11 (.inr ⟨_, rfl⟩) fl_RX12_49 (.inr ⟨rfl, rfl, rfl, flg_RX12_49⟩) dX12_init_100 ?_
  exact t_X12_init_103 l E c0 s0 _ _ _
def f_X12_init_95 (l0 : Nat) (m : Mm) (o : Prop) : Unit × Mm × Prop := f_X12_init_100 l0 (gC m + 1) l0 (nC m 20 16 16) o
set_option maxRecDepth 10000 in
theorem t_X12_init_95 (l : Launch) (E : En) (c0 s0 : Nat) (l0 : Nat) (m : Mm) (o : Prop) : Mh wU l E mi_X12_init c0 s0 95 [(0, .ref l0)] [] m o (f_X12_init_95 l0 m o) := by
  refine Mh_aload_n 0 rfl dX12_init_95 ?_
  refine Mh_bipush (v := 16) dX12_init_96 (by decide) ?_
  refine Mh_nar 20 0 16 .int (.inl rfl) rfl rfl (fun _ _ h => h) (.inr ⟨by decide, rfl⟩) nar_20 (by decide) (by decide) (by decide) dX12_init_98 ?_
  exact t_X12_init_100 l E c0 s0 _ _ _ _ _
def f_X12_init_92 (l0 : Nat) (y1 : Nat) (y0 : Nat) (m : Mm) (o : Prop) : Unit × Mm × Prop := f_X12_init_95 l0 (sR m y0 16 y1) (o ∧ (gT m y0 = 12 ∧ y1 ≠ 0))
set_option maxRecDepth 10000 in
theorem t_X12_init_92 (l : Launch) (E : En) (c0 s0 : Nat) (l0 : Nat) (y1 : Nat) (y0 : Nat) (m : Mm) (o : Prop) : Mh wU l E mi_X12_init c0 s0 92 [(0, .ref l0)] [.ref y1, .ref y0] m o (f_X12_init_92 l0 y1 y0 m o) := by
  refine Mh_pR fd_11_16 ft_11 (.inr ⟨_, rfl⟩) fl_RX12_46 (.inr ⟨rfl, rfl, rfl, flg_RX12_46⟩) dX12_init_92 ?_
  exact t_X12_init_95 l E c0 s0 _ _ _
def f_X12_init_87 (l0 : Nat) (m : Mm) (o : Prop) : Unit × Mm × Prop := f_X12_init_92 l0 (gC m + 1) l0 (nC m 20 16 16) o
set_option maxRecDepth 10000 in
theorem t_X12_init_87 (l : Launch) (E : En) (c0 s0 : Nat) (l0 : Nat) (m : Mm) (o : Prop) : Mh wU l E mi_X12_init c0 s0 87 [(0, .ref l0)] [] m o (f_X12_init_87 l0 m o) := by
  refine Mh_aload_n 0 rfl dX12_init_87 ?_
  refine Mh_bipush (v := 16) dX12_init_88 (by decide) ?_
  refine Mh_nar 20 0 16 .int (.inl rfl) rfl rfl (fun _ _ h => h) (.inr ⟨by decide, rfl⟩) nar_20 (by decide) (by decide) (by decide) dX12_init_90 ?_
  exact t_X12_init_92 l E c0 s0 _ _ _ _ _
def f_X12_init_84 (l0 : Nat) (y1 : Nat) (y0 : Nat) (m : Mm) (o : Prop) : Unit × Mm × Prop := f_X12_init_87 l0 (sR m y0 15 y1) (o ∧ (gT m y0 = 12 ∧ y1 ≠ 0))
set_option maxRecDepth 10000 in
theorem t_X12_init_84 (l : Launch) (E : En) (c0 s0 : Nat) (l0 : Nat) (y1 : Nat) (y0 : Nat) (m : Mm) (o : Prop) : Mh wU l E mi_X12_init c0 s0 84 [(0, .ref l0)] [.ref y1, .ref y0] m o (f_X12_init_84 l0 y1 y0 m o) := by
  refine Mh_pR fd_11_15 ft_11 (.inr ⟨_, rfl⟩) fl_RX12_43 (.inr ⟨rfl, rfl, rfl, flg_RX12_43⟩) dX12_init_84 ?_
  exact t_X12_init_87 l E c0 s0 _ _ _
def f_X12_init_79 (l0 : Nat) (m : Mm) (o : Prop) : Unit × Mm × Prop := f_X12_init_84 l0 (gC m + 1) l0 (nC m 20 16 16) o
set_option maxRecDepth 10000 in
theorem t_X12_init_79 (l : Launch) (E : En) (c0 s0 : Nat) (l0 : Nat) (m : Mm) (o : Prop) : Mh wU l E mi_X12_init c0 s0 79 [(0, .ref l0)] [] m o (f_X12_init_79 l0 m o) := by
  refine Mh_aload_n 0 rfl dX12_init_79 ?_
  refine Mh_bipush (v := 16) dX12_init_80 (by decide) ?_
  refine Mh_nar 20 0 16 .int (.inl rfl) rfl rfl (fun _ _ h => h) (.inr ⟨by decide, rfl⟩) nar_20 (by decide) (by decide) (by decide) dX12_init_82 ?_
  exact t_X12_init_84 l E c0 s0 _ _ _ _ _
def f_X12_init_76 (l0 : Nat) (y1 : Nat) (y0 : Nat) (m : Mm) (o : Prop) : Unit × Mm × Prop := f_X12_init_79 l0 (sR m y0 14 y1) (o ∧ (gT m y0 = 12 ∧ y1 ≠ 0))
set_option maxRecDepth 10000 in
theorem t_X12_init_76 (l : Launch) (E : En) (c0 s0 : Nat) (l0 : Nat) (y1 : Nat) (y0 : Nat) (m : Mm) (o : Prop) : Mh wU l E mi_X12_init c0 s0 76 [(0, .ref l0)] [.ref y1, .ref y0] m o (f_X12_init_76 l0 y1 y0 m o) := by
  refine Mh_pR fd_11_14 ft_11 (.inr ⟨_, rfl⟩) fl_RX12_39 (.inr ⟨rfl, rfl, rfl, flg_RX12_39⟩) dX12_init_76 ?_
  exact t_X12_init_79 l E c0 s0 _ _ _
def f_X12_init_71 (l0 : Nat) (m : Mm) (o : Prop) : Unit × Mm × Prop := f_X12_init_76 l0 (gC m + 1) l0 (nC m 22 12 12) o
set_option maxRecDepth 10000 in
theorem t_X12_init_71 (l : Launch) (E : En) (c0 s0 : Nat) (l0 : Nat) (m : Mm) (o : Prop) : Mh wU l E mi_X12_init c0 s0 71 [(0, .ref l0)] [] m o (f_X12_init_71 l0 m o) := by
  refine Mh_aload_n 0 rfl dX12_init_71 ?_
  refine Mh_bipush (v := 12) dX12_init_72 (by decide) ?_
  refine Mh_nar 22 2 12 .boolean (.inr (.inr (.inl rfl))) rfl rfl (fun _ _ h => h) (.inr ⟨by decide, rfl⟩) nar_22 (by decide) (by decide) (by decide) dX12_init_74 ?_
  exact t_X12_init_76 l E c0 s0 _ _ _ _ _
def f_X12_init_68 (l0 : Nat) (y1 : Nat) (y0 : Nat) (m : Mm) (o : Prop) : Unit × Mm × Prop := f_X12_init_71 l0 (sR m y0 13 y1) (o ∧ (gT m y0 = 12 ∧ y1 ≠ 0))
set_option maxRecDepth 10000 in
theorem t_X12_init_68 (l : Launch) (E : En) (c0 s0 : Nat) (l0 : Nat) (y1 : Nat) (y0 : Nat) (m : Mm) (o : Prop) : Mh wU l E mi_X12_init c0 s0 68 [(0, .ref l0)] [.ref y1, .ref y0] m o (f_X12_init_68 l0 y1 y0 m o) := by
  refine Mh_pR fd_11_13 ft_11 (.inr ⟨_, rfl⟩) fl_RX12_36 (.inr ⟨rfl, rfl, rfl, flg_RX12_36⟩) dX12_init_68 ?_
  exact t_X12_init_71 l E c0 s0 _ _ _
def f_X12_init_63 (l0 : Nat) (m : Mm) (o : Prop) : Unit × Mm × Prop := f_X12_init_68 l0 (gC m + 1) l0 (nC m 20 12 12) o
set_option maxRecDepth 10000 in
theorem t_X12_init_63 (l : Launch) (E : En) (c0 s0 : Nat) (l0 : Nat) (m : Mm) (o : Prop) : Mh wU l E mi_X12_init c0 s0 63 [(0, .ref l0)] [] m o (f_X12_init_63 l0 m o) := by
  refine Mh_aload_n 0 rfl dX12_init_63 ?_
  refine Mh_bipush (v := 12) dX12_init_64 (by decide) ?_
  refine Mh_nar 20 0 12 .int (.inl rfl) rfl rfl (fun _ _ h => h) (.inr ⟨by decide, rfl⟩) nar_20 (by decide) (by decide) (by decide) dX12_init_66 ?_
  exact t_X12_init_68 l E c0 s0 _ _ _ _ _
def f_X12_init_60 (l0 : Nat) (y1 : Nat) (y0 : Nat) (m : Mm) (o : Prop) : Unit × Mm × Prop := f_X12_init_63 l0 (sR m y0 12 y1) (o ∧ (gT m y0 = 12 ∧ y1 ≠ 0))
set_option maxRecDepth 10000 in
theorem t_X12_init_60 (l : Launch) (E : En) (c0 s0 : Nat) (l0 : Nat) (y1 : Nat) (y0 : Nat) (m : Mm) (o : Prop) : Mh wU l E mi_X12_init c0 s0 60 [(0, .ref l0)] [.ref y1, .ref y0] m o (f_X12_init_60 l0 y1 y0 m o) := by
  refine Mh_pR fd_11_12 ft_11 (.inr ⟨_, rfl⟩) fl_RX12_33 (.inr ⟨rfl, rfl, rfl, flg_RX12_33⟩) dX12_init_60 ?_
  exact t_X12_init_63 l E c0 s0 _ _ _
def f_X12_init_55 (l0 : Nat) (m : Mm) (o : Prop) : Unit × Mm × Prop := f_X12_init_60 l0 (gC m + 1) l0 (nC m 20 12 12) o
set_option maxRecDepth 10000 in
theorem t_X12_init_55 (l : Launch) (E : En) (c0 s0 : Nat) (l0 : Nat) (m : Mm) (o : Prop) : Mh wU l E mi_X12_init c0 s0 55 [(0, .ref l0)] [] m o (f_X12_init_55 l0 m o) := by
  refine Mh_aload_n 0 rfl dX12_init_55 ?_
  refine Mh_bipush (v := 12) dX12_init_56 (by decide) ?_
  refine Mh_nar 20 0 12 .int (.inl rfl) rfl rfl (fun _ _ h => h) (.inr ⟨by decide, rfl⟩) nar_20 (by decide) (by decide) (by decide) dX12_init_58 ?_
  exact t_X12_init_60 l E c0 s0 _ _ _ _ _
def f_X12_init_52 (l0 : Nat) (y1 : Nat) (y0 : Nat) (m : Mm) (o : Prop) : Unit × Mm × Prop := f_X12_init_55 l0 (sR m y0 11 y1) (o ∧ (gT m y0 = 12 ∧ y1 ≠ 0))
set_option maxRecDepth 10000 in
theorem t_X12_init_52 (l : Launch) (E : En) (c0 s0 : Nat) (l0 : Nat) (y1 : Nat) (y0 : Nat) (m : Mm) (o : Prop) : Mh wU l E mi_X12_init c0 s0 52 [(0, .ref l0)] [.ref y1, .ref y0] m o (f_X12_init_52 l0 y1 y0 m o) := by
  refine Mh_pR fd_11_11 ft_11 (.inr ⟨_, rfl⟩) fl_RX12_30 (.inr ⟨rfl, rfl, rfl, flg_RX12_30⟩) dX12_init_52 ?_
  exact t_X12_init_55 l E c0 s0 _ _ _
def f_X12_init_47 (l0 : Nat) (m : Mm) (o : Prop) : Unit × Mm × Prop := f_X12_init_52 l0 (gC m + 1) l0 (nC m 20 12 12) o
set_option maxRecDepth 10000 in
theorem t_X12_init_47 (l : Launch) (E : En) (c0 s0 : Nat) (l0 : Nat) (m : Mm) (o : Prop) : Mh wU l E mi_X12_init c0 s0 47 [(0, .ref l0)] [] m o (f_X12_init_47 l0 m o) := by
  refine Mh_aload_n 0 rfl dX12_init_47 ?_
  refine Mh_bipush (v := 12) dX12_init_48 (by decide) ?_
  refine Mh_nar 20 0 12 .int (.inl rfl) rfl rfl (fun _ _ h => h) (.inr ⟨by decide, rfl⟩) nar_20 (by decide) (by decide) (by decide) dX12_init_50 ?_
  exact t_X12_init_52 l E c0 s0 _ _ _ _ _
def f_X12_init_44 (l0 : Nat) (y1 : Nat) (y0 : Nat) (m : Mm) (o : Prop) : Unit × Mm × Prop := f_X12_init_47 l0 (sR m y0 10 y1) (o ∧ (gT m y0 = 12 ∧ y1 ≠ 0))
set_option maxRecDepth 10000 in
theorem t_X12_init_44 (l : Launch) (E : En) (c0 s0 : Nat) (l0 : Nat) (y1 : Nat) (y0 : Nat) (m : Mm) (o : Prop) : Mh wU l E mi_X12_init c0 s0 44 [(0, .ref l0)] [.ref y1, .ref y0] m o (f_X12_init_44 l0 y1 y0 m o) := by
  refine Mh_pR fd_11_10 ft_11 (.inr ⟨_, rfl⟩) fl_RX12_27 (.inr ⟨rfl, rfl, rfl, flg_RX12_27⟩) dX12_init_44 ?_
  exact t_X12_init_47 l E c0 s0 _ _ _
def f_X12_init_39 (l0 : Nat) (m : Mm) (o : Prop) : Unit × Mm × Prop := f_X12_init_44 l0 (gC m + 1) l0 (nC m 20 12 12) o
set_option maxRecDepth 10000 in
theorem t_X12_init_39 (l : Launch) (E : En) (c0 s0 : Nat) (l0 : Nat) (m : Mm) (o : Prop) : Mh wU l E mi_X12_init c0 s0 39 [(0, .ref l0)] [] m o (f_X12_init_39 l0 m o) := by
  refine Mh_aload_n 0 rfl dX12_init_39 ?_
  refine Mh_bipush (v := 12) dX12_init_40 (by decide) ?_
  refine Mh_nar 20 0 12 .int (.inl rfl) rfl rfl (fun _ _ h => h) (.inr ⟨by decide, rfl⟩) nar_20 (by decide) (by decide) (by decide) dX12_init_42 ?_
  exact t_X12_init_44 l E c0 s0 _ _ _ _ _
def f_X12_init_36 (l0 : Nat) (y1 : Nat) (y0 : Nat) (m : Mm) (o : Prop) : Unit × Mm × Prop := f_X12_init_39 l0 (sR m y0 9 y1) (o ∧ (gT m y0 = 12 ∧ y1 ≠ 0))
set_option maxRecDepth 10000 in
theorem t_X12_init_36 (l : Launch) (E : En) (c0 s0 : Nat) (l0 : Nat) (y1 : Nat) (y0 : Nat) (m : Mm) (o : Prop) : Mh wU l E mi_X12_init c0 s0 36 [(0, .ref l0)] [.ref y1, .ref y0] m o (f_X12_init_36 l0 y1 y0 m o) := by
  refine Mh_pR fd_11_9 ft_11 (.inr ⟨_, rfl⟩) fl_RX12_24 (.inr ⟨rfl, rfl, rfl, flg_RX12_24⟩) dX12_init_36 ?_
  exact t_X12_init_39 l E c0 s0 _ _ _
def f_X12_init_31 (l0 : Nat) (m : Mm) (o : Prop) : Unit × Mm × Prop := f_X12_init_36 l0 (gC m + 1) l0 (nC m 20 12 12) o
set_option maxRecDepth 10000 in
theorem t_X12_init_31 (l : Launch) (E : En) (c0 s0 : Nat) (l0 : Nat) (m : Mm) (o : Prop) : Mh wU l E mi_X12_init c0 s0 31 [(0, .ref l0)] [] m o (f_X12_init_31 l0 m o) := by
  refine Mh_aload_n 0 rfl dX12_init_31 ?_
  refine Mh_bipush (v := 12) dX12_init_32 (by decide) ?_
  refine Mh_nar 20 0 12 .int (.inl rfl) rfl rfl (fun _ _ h => h) (.inr ⟨by decide, rfl⟩) nar_20 (by decide) (by decide) (by decide) dX12_init_34 ?_
  exact t_X12_init_36 l E c0 s0 _ _ _ _ _
def f_X12_init_28 (l0 : Nat) (y1 : Nat) (y0 : Nat) (m : Mm) (o : Prop) : Unit × Mm × Prop := f_X12_init_31 l0 (sR m y0 8 y1) (o ∧ (gT m y0 = 12 ∧ y1 ≠ 0))
set_option maxRecDepth 10000 in
theorem t_X12_init_28 (l : Launch) (E : En) (c0 s0 : Nat) (l0 : Nat) (y1 : Nat) (y0 : Nat) (m : Mm) (o : Prop) : Mh wU l E mi_X12_init c0 s0 28 [(0, .ref l0)] [.ref y1, .ref y0] m o (f_X12_init_28 l0 y1 y0 m o) := by
  refine Mh_pR fd_11_8 ft_11 (.inr ⟨_, rfl⟩) fl_RX12_20 (.inr ⟨rfl, rfl, rfl, flg_RX12_20⟩) dX12_init_28 ?_
  exact t_X12_init_31 l E c0 s0 _ _ _
def f_X12_init_23 (l0 : Nat) (m : Mm) (o : Prop) : Unit × Mm × Prop := f_X12_init_28 l0 (gC m + 1) l0 (nC m 20 12 12) o
set_option maxRecDepth 10000 in
theorem t_X12_init_23 (l : Launch) (E : En) (c0 s0 : Nat) (l0 : Nat) (m : Mm) (o : Prop) : Mh wU l E mi_X12_init c0 s0 23 [(0, .ref l0)] [] m o (f_X12_init_23 l0 m o) := by
  refine Mh_aload_n 0 rfl dX12_init_23 ?_
  refine Mh_bipush (v := 12) dX12_init_24 (by decide) ?_
  refine Mh_nar 20 0 12 .int (.inl rfl) rfl rfl (fun _ _ h => h) (.inr ⟨by decide, rfl⟩) nar_20 (by decide) (by decide) (by decide) dX12_init_26 ?_
  exact t_X12_init_28 l E c0 s0 _ _ _ _ _
def f_X12_init_18 (l0 : Nat) (m : Mm) (o : Prop) : Unit × Mm × Prop := f_X12_init_23 l0 (sI m l0 6 (-1 : Int32)) (o ∧ gT m l0 = 12)
set_option maxRecDepth 10000 in
theorem t_X12_init_18 (l : Launch) (E : En) (c0 s0 : Nat) (l0 : Nat) (m : Mm) (o : Prop) : Mh wU l E mi_X12_init c0 s0 18 [(0, .ref l0)] [] m o (f_X12_init_18 l0 m o) := by
  refine Mh_aload_n 0 rfl dX12_init_18 ?_
  refine Mh_iconst (v := (-1)) dX12_init_19 (by decide) ?_
  refine Mh_pI fd_11_6 ft_11 rfl fl_RX12_17 rfl dX12_init_20 ?_
  exact t_X12_init_23 l E c0 s0 _ _ _
def f_X12_init_13 (l0 : Nat) (m : Mm) (o : Prop) : Unit × Mm × Prop := f_X12_init_18 l0 (sI m l0 5 (1 : Int32)) (o ∧ gT m l0 = 12)
set_option maxRecDepth 10000 in
theorem t_X12_init_13 (l : Launch) (E : En) (c0 s0 : Nat) (l0 : Nat) (m : Mm) (o : Prop) : Mh wU l E mi_X12_init c0 s0 13 [(0, .ref l0)] [] m o (f_X12_init_13 l0 m o) := by
  refine Mh_aload_n 0 rfl dX12_init_13 ?_
  refine Mh_iconst (v := 1) dX12_init_14 (by decide) ?_
  refine Mh_pI fd_11_5 ft_11 rfl fl_RX12_13 rfl dX12_init_15 ?_
  exact t_X12_init_18 l E c0 s0 _ _ _
def f_X12_init_10 (l0 : Nat) (y1 : Nat) (y0 : Nat) (m : Mm) (o : Prop) : Unit × Mm × Prop := f_X12_init_13 l0 (sR m y0 0 y1) (o ∧ (gT m y0 = 12 ∧ y1 ≠ 0))
set_option maxRecDepth 10000 in
theorem t_X12_init_10 (l : Launch) (E : En) (c0 s0 : Nat) (l0 : Nat) (y1 : Nat) (y0 : Nat) (m : Mm) (o : Prop) : Mh wU l E mi_X12_init c0 s0 10 [(0, .ref l0)] [.ref y1, .ref y0] m o (f_X12_init_10 l0 y1 y0 m o) := by
  refine Mh_pR fd_11_0 ft_11 (.inr ⟨_, rfl⟩) fl_RX12_7 (.inr ⟨rfl, rfl, rfl, flg_RX12_7⟩) dX12_init_10 ?_
  exact t_X12_init_13 l E c0 s0 _ _ _
def f_X12_init_0 (l0 : Nat) (m : Mm) (o : Prop) : Unit × Mm × Prop := f_X12_init_10 l0 (gC m + 1) l0 (nC m 23 220 220) o
set_option maxRecDepth 10000 in
theorem t_X12_init_0 (l : Launch) (E : En) (c0 s0 : Nat) (l0 : Nat) (m : Mm) (o : Prop) : Mh wU l E mi_X12_init c0 s0 0 [(0, .ref l0)] [] m o (f_X12_init_0 l0 m o) := by
  refine Mh_aload_n 0 rfl dX12_init_0 ?_
  refine Mh_oin (by decide) ml_RX12_1 obj_1 obj_2 dX12_init_1 ?_
  refine Mh_aload_n 0 rfl dX12_init_4 ?_
  refine Mh_sipush (v := 220) dX12_init_5 (by decide) ?_
  refine Mh_nar 23 3 220 .byte (.inr (.inr (.inr rfl))) rfl rfl (fun _ _ h => h) (.inr ⟨by decide, rfl⟩) nar_23 (by decide) (by decide) (by decide) dX12_init_8 ?_
  exact t_X12_init_10 l E c0 s0 _ _ _ _ _
def F_X12_init (a0 : Nat) (m : Mm) (o : Prop) : Unit × Mm × Prop := f_X12_init_0 a0 m o
theorem T_X12_init (l : Launch) (E : En) (a0 : Nat) (m : Mm) (o : Prop) : Mt wU l E yX12_init mi_X12_init [.ref a0] m o (F_X12_init a0 m o) :=
  Mt_U (by decide) rfl (fun _ => rfl) rfl (Nat.le_of_ble_eq_true rfl) rfl (t_X12_init_0 l E _ _ _ _ _)
