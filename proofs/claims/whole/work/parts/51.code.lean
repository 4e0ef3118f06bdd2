def f_L_law_1121 (L : Nat) (xs : Nat → Int32) (k18 : Nat → Nat → Int32 → Mm → Prop → Int32 × Mm × Prop) (l1 : Nat) (l2 : Nat) (l3 : Int32) (m : Mm) (o : Prop) : Int32 × Mm × Prop := k18 l1 l2 (l3 + 7) m o
set_option maxRecDepth 10000 in
theorem t_L_law_1121 (l : Launch) (E : En) (c0 s0 : Nat) (k18 : Nat → Nat → Int32 → Mm → Prop → Int32 × Mm × Prop) (hk18 : ∀ (l1 : Nat) (l2 : Nat) (l3 : Int32) (m : Mm) (o : Prop), Mh wI l E mi_L_law c0 s0 18 [(0, .ref 0), (1, .ref l1), (2, .ref l2), (3, .int l3)] [] m o (k18 l1 l2 l3 m o)) (l1 : Nat) (l2 : Nat) (l3 : Int32) (m : Mm) (o : Prop) : Mh wI l E mi_L_law c0 s0 1121 [(0, .ref 0), (1, .ref l1), (2, .ref l2), (3, .int l3)] [] m o (f_L_law_1121 E.2.2.2.2.2.2.1 E.2.2.2.2.2.2.2 k18 l1 l2 l3 m o) := by
  refine Mh_iinc (v := l3 + 7) (lv' := [(3, .int (l3 + 7)), (0, .ref 0), (1, .ref l1), (2, .ref l2)]) 3 dL_law_1121 rfl rfl (Nat.le_of_ble_eq_true rfl) rfl ?_
  refine Mh_goto (tgt := 18) dL_law_1124 (by decide) ?_
  refine Mh_sub (lv' := [(0, .ref 0), (1, .ref l1), (2, .ref l2), (3, .int (l3 + 7))]) [1, 2, 3, 0] rfl ?_
  exact hk18 _ _ _ _ _
def f_L_law_234 (L : Nat) (xs : Nat → Int32) (k18 : Nat → Nat → Int32 → Mm → Prop → Int32 × Mm × Prop) (l1 : Nat) (l2 : Nat) (l3 : Int32) (y1 : Int32) (y0 : Int32) (m : Mm) (o : Prop) : Int32 × Mm × Prop := if y0 = y1 then (f_L_law_1121 L xs k18 l1 l2 l3 m o) else ((0 : Int32), m, o)
set_option maxRecDepth 10000 in
theorem t_L_law_234 (l : Launch) (E : En) (c0 s0 : Nat) (k18 : Nat → Nat → Int32 → Mm → Prop → Int32 × Mm × Prop) (hk18 : ∀ (l1 : Nat) (l2 : Nat) (l3 : Int32) (m : Mm) (o : Prop), Mh wI l E mi_L_law c0 s0 18 [(0, .ref 0), (1, .ref l1), (2, .ref l2), (3, .int l3)] [] m o (k18 l1 l2 l3 m o)) (l1 : Nat) (l2 : Nat) (l3 : Int32) (y1 : Int32) (y0 : Int32) (m : Mm) (o : Prop) : Mh wI l E mi_L_law c0 s0 234 [(0, .ref 0), (1, .ref l1), (2, .ref l2), (3, .int l3)] [.int y1, .int y0] m o (f_L_law_234 E.2.2.2.2.2.2.1 E.2.2.2.2.2.2.2 k18 l1 l2 l3 y1 y0 m o) := by
  refine Mh_icmp_eq (tgt := 1121) dL_law_234 (by decide) rfl (fun _ => ?_) (fun _ => ?_)
  · exact t_L_law_1121 l E c0 s0 k18 hk18 _ _ _ _ _
  · refine Mh_iconst (v := 0) dL_law_237 (by decide) ?_
    exact Mh_ret dL_law_238 rfl (fun _ => rk0Z) rfl
def f_L_law_199 (L : Nat) (xs : Nat → Int32) (k18 : Nat → Nat → Int32 → Mm → Prop → Int32 × Mm × Prop) (l1 : Nat) (l2 : Nat) (l3 : Int32) (y0 : Int32) (m : Mm) (o : Prop) : Int32 × Mm × Prop := bnd (F_X12_stack l2 (xs (ix (l3 + (1 : Int32)))) (xs (ix (l3 + (2 : Int32)))) (xs (ix (l3 + (3 : Int32)))) (xs (ix (l3 + (4 : Int32)))) (xs (ix (l3 + (5 : Int32)))) (xs (ix (l3 + (6 : Int32)))) m (((((((o ∧ vp_in (l3 + (1 : Int32)) L) ∧ vp_in (l3 + (2 : Int32)) L) ∧ vp_in (l3 + (3 : Int32)) L) ∧ vp_in (l3 + (4 : Int32)) L) ∧ vp_in (l3 + (5 : Int32)) L) ∧ vp_in (l3 + (6 : Int32)) L) ∧ gT m l2 = 12)) (fun v1 m1 o1 => f_L_law_234 L xs k18 l1 l2 l3 v1 y0 m1 o1)
set_option maxRecDepth 10000 in
theorem t_L_law_199 (l : Launch) (E : En) (c0 s0 : Nat) (k18 : Nat → Nat → Int32 → Mm → Prop → Int32 × Mm × Prop) (hk18 : ∀ (l1 : Nat) (l2 : Nat) (l3 : Int32) (m : Mm) (o : Prop), Mh wI l E mi_L_law c0 s0 18 [(0, .ref 0), (1, .ref l1), (2, .ref l2), (3, .int l3)] [] m o (k18 l1 l2 l3 m o)) (l1 : Nat) (l2 : Nat) (l3 : Int32) (y0 : Int32) (m : Mm) (o : Prop) : Mh wI l E mi_L_law c0 s0 199 [(0, .ref 0), (1, .ref l1), (2, .ref l2), (3, .int l3)] [.int y0] m o (f_L_law_199 E.2.2.2.2.2.2.1 E.2.2.2.2.2.2.2 k18 l1 l2 l3 y0 m o) := by
  refine Mh_aload_n 2 rfl dL_law_199 ?_
  refine Mh_aload_n 0 rfl dL_law_200 ?_
  refine Mh_iload_n 3 rfl dL_law_201 ?_
  refine Mh_iconst (v := 1) dL_law_202 (by decide) ?_
  refine Mh_iadd dL_law_203 ?_
  refine Mh_sal rfl dL_law_204 ?_
  refine Mh_aload_n 0 rfl dL_law_205 ?_
  refine Mh_iload_n 3 rfl dL_law_206 ?_
  refine Mh_iconst (v := 2) dL_law_207 (by decide) ?_
  refine Mh_iadd dL_law_208 ?_
  refine Mh_sal rfl dL_law_209 ?_
  refine Mh_aload_n 0 rfl dL_law_210 ?_
  refine Mh_iload_n 3 rfl dL_law_211 ?_
  refine Mh_iconst (v := 3) dL_law_212 (by decide) ?_
  refine Mh_iadd dL_law_213 ?_
  refine Mh_sal rfl dL_law_214 ?_
  refine Mh_aload_n 0 rfl dL_law_215 ?_
  refine Mh_iload_n 3 rfl dL_law_216 ?_
  refine Mh_iconst (v := 4) dL_law_217 (by decide) ?_
  refine Mh_iadd dL_law_218 ?_
  refine Mh_sal rfl dL_law_219 ?_
  refine Mh_aload_n 0 rfl dL_law_220 ?_
  refine Mh_iload_n 3 rfl dL_law_221 ?_
  refine Mh_iconst (v := 5) dL_law_222 (by decide) ?_
  refine Mh_iadd dL_law_223 ?_
  refine Mh_sal rfl dL_law_224 ?_
  refine Mh_aload_n 0 rfl dL_law_225 ?_
  refine Mh_iload_n 3 rfl dL_law_226 ?_
  refine Mh_bipush (v := 6) dL_law_227 (by decide) ?_
  refine Mh_iadd dL_law_229 ?_
  refine Mh_sal rfl dL_law_230 ?_
  refine Mh_cvI (N := mi_X12_stack) (q := l2) (ci := 11) (as := [.int (E.2.2.2.2.2.2.2 (ix (l3 + (1 : Int32)))), .int (E.2.2.2.2.2.2.2 (ix (l3 + (2 : Int32)))), .int (E.2.2.2.2.2.2.2 (ix (l3 + (3 : Int32)))), .int (E.2.2.2.2.2.2.2 (ix (l3 + (4 : Int32)))), .int (E.2.2.2.2.2.2.2 (ix (l3 + (5 : Int32)))), .int (E.2.2.2.2.2.2.2 (ix (l3 + (6 : Int32))))]) (st := [.int y0]) (id) cg_yX12_stack (by decide) rfl rfl ml_RL_17 iv_yX12_stack pd_yX12_stack rfl (by decide) (Nat.le_of_ble_eq_true rfl) rfl dL_law_231 (T_X12_stack l E _ _ _ _ _ _ _ _ _) rfl ?_
  exact t_L_law_234 l E c0 s0 k18 hk18 _ _ _ _ _ _ _
def f_L_law_303 (L : Nat) (xs : Nat → Int32) (k18 : Nat → Nat → Int32 → Mm → Prop → Int32 × Mm × Prop) (l1 : Nat) (l2 : Nat) (l3 : Int32) (y1 : Int32) (y0 : Int32) (m : Mm) (o : Prop) : Int32 × Mm × Prop := if y0 = y1 then (f_L_law_1121 L xs k18 l1 l2 l3 m o) else ((0 : Int32), m, o)
set_option maxRecDepth 10000 in
theorem t_L_law_303 (l : Launch) (E : En) (c0 s0 : Nat) (k18 : Nat → Nat → Int32 → Mm → Prop → Int32 × Mm × Prop) (hk18 : ∀ (l1 : Nat) (l2 : Nat) (l3 : Int32) (m : Mm) (o : Prop), Mh wI l E mi_L_law c0 s0 18 [(0, .ref 0), (1, .ref l1), (2, .ref l2), (3, .int l3)] [] m o (k18 l1 l2 l3 m o)) (l1 : Nat) (l2 : Nat) (l3 : Int32) (y1 : Int32) (y0 : Int32) (m : Mm) (o : Prop) : Mh wI l E mi_L_law c0 s0 303 [(0, .ref 0), (1, .ref l1), (2, .ref l2), (3, .int l3)] [.int y1, .int y0] m o (f_L_law_303 E.2.2.2.2.2.2.1 E.2.2.2.2.2.2.2 k18 l1 l2 l3 y1 y0 m o) := by
  refine Mh_icmp_eq (tgt := 1121) dL_law_303 (by decide) rfl (fun _ => ?_) (fun _ => ?_)
  · exact t_L_law_1121 l E c0 s0 k18 hk18 _ _ _ _ _
  · refine Mh_iconst (v := 0) dL_law_306 (by decide) ?_
    exact Mh_ret dL_law_307 rfl (fun _ => rk0Z) rfl
def f_L_law_295 (L : Nat) (xs : Nat → Int32) (k18 : Nat → Nat → Int32 → Mm → Prop → Int32 × Mm × Prop) (l1 : Nat) (l2 : Nat) (l3 : Int32) (y4 : Int32) (y3 : Int32) (y2 : Int32) (y1 : Nat) (y0 : Int32) (m : Mm) (o : Prop) : Int32 × Mm × Prop := bnd (F_X12_cow y1 y2 y3 y4 (xs (ix (l3 + (4 : Int32)))) m ((o ∧ vp_in (l3 + (4 : Int32)) L) ∧ gT m y1 = 12)) (fun v1 m1 o1 => f_L_law_303 L xs k18 l1 l2 l3 v1 y0 m1 o1)
set_option maxRecDepth 10000 in
theorem t_L_law_295 (l : Launch) (E : En) (c0 s0 : Nat) (k18 : Nat → Nat → Int32 → Mm → Prop → Int32 × Mm × Prop) (hk18 : ∀ (l1 : Nat) (l2 : Nat) (l3 : Int32) (m : Mm) (o : Prop), Mh wI l E mi_L_law c0 s0 18 [(0, .ref 0), (1, .ref l1), (2, .ref l2), (3, .int l3)] [] m o (k18 l1 l2 l3 m o)) (l1 : Nat) (l2 : Nat) (l3 : Int32) (y4 : Int32) (y3 : Int32) (y2 : Int32) (y1 : Nat) (y0 : Int32) (m : Mm) (o : Prop) : Mh wI l E mi_L_law c0 s0 295 [(0, .ref 0), (1, .ref l1), (2, .ref l2), (3, .int l3)] [.int y4, .int y3, .int y2, .ref y1, .int y0] m o (f_L_law_295 E.2.2.2.2.2.2.1 E.2.2.2.2.2.2.2 k18 l1 l2 l3 y4 y3 y2 y1 y0 m o) := by
  refine Mh_aload_n 0 rfl dL_law_295 ?_
  refine Mh_iload_n 3 rfl dL_law_296 ?_
  refine Mh_iconst (v := 4) dL_law_297 (by decide) ?_
  refine Mh_iadd dL_law_298 ?_
  refine Mh_sal rfl dL_law_299 ?_
  refine Mh_cvI (N := mi_X12_cow) (q := y1) (ci := 11) (as := [.int y2, .int y3, .int y4, .int (E.2.2.2.2.2.2.2 (ix (l3 + (4 : Int32))))]) (st := [.int y0]) (id) cg_yX12_cow (by decide) rfl rfl ml_RL_22 iv_yX12_cow pd_yX12_cow rfl (by decide) (Nat.le_of_ble_eq_true rfl) rfl dL_law_300 (T_X12_cow l E _ _ _ _ _ _ _) rfl ?_
  exact t_L_law_303 l E c0 s0 k18 hk18 _ _ _ _ _ _ _
def f_L_law_271 (L : Nat) (xs : Nat → Int32) (k18 : Nat → Nat → Int32 → Mm → Prop → Int32 × Mm × Prop) (l1 : Nat) (l2 : Nat) (l3 : Int32) (y0 : Int32) (m : Mm) (o : Prop) : Int32 × Mm × Prop := if (xs (ix (l3 + (3 : Int32)))) = 0 then (f_L_law_295 L xs k18 l1 l2 l3 (0 : Int32) (xs (ix (l3 + (2 : Int32)))) (xs (ix (l3 + (1 : Int32)))) l2 y0 m (((o ∧ vp_in (l3 + (1 : Int32)) L) ∧ vp_in (l3 + (2 : Int32)) L) ∧ vp_in (l3 + (3 : Int32)) L)) else (f_L_law_295 L xs k18 l1 l2 l3 (1 : Int32) (xs (ix (l3 + (2 : Int32)))) (xs (ix (l3 + (1 : Int32)))) l2 y0 m (((o ∧ vp_in (l3 + (1 : Int32)) L) ∧ vp_in (l3 + (2 : Int32)) L) ∧ vp_in (l3 + (3 : Int32)) L))
set_option maxRecDepth 10000 in
theorem t_L_law_271 (l : Launch) (E : En) (c0 s0 : Nat) (k18 : Nat → Nat → Int32 → Mm → Prop → Int32 × Mm × Prop) (hk18 : ∀ (l1 : Nat) (l2 : Nat) (l3 : Int32) (m : Mm) (o : Prop), Mh wI l E mi_L_law c0 s0 18 [(0, .ref 0), (1, .ref l1), (2, .ref l2), (3, .int l3)] [] m o (k18 l1 l2 l3 m o)) (l1 : Nat) (l2 : Nat) (l3 : Int32) (y0 : Int32) (m : Mm) (o : Prop) : Mh wI l E mi_L_law c0 s0 271 [(0, .ref 0), (1, .ref l1), (2, .ref l2), (3, .int l3)] [.int y0] m o (f_L_law_271 E.2.2.2.2.2.2.1 E.2.2.2.2.2.2.2 k18 l1 l2 l3 y0 m o) := by
  refine Mh_aload_n 2 rfl dL_law_271 ?_
  refine Mh_aload_n 0 rfl dL_law_272 ?_
  refine Mh_iload_n 3 rfl dL_law_273 ?_
  refine Mh_iconst (v := 1) dL_law_274 (by decide) ?_
  refine Mh_iadd dL_law_275 ?_
  refine Mh_sal rfl dL_law_276 ?_
  refine Mh_aload_n 0 rfl dL_law_277 ?_
  refine Mh_iload_n 3 rfl dL_law_278 ?_
  refine Mh_iconst (v := 2) dL_law_279 (by decide) ?_
  refine Mh_iadd dL_law_280 ?_
  refine Mh_sal rfl dL_law_281 ?_
  refine Mh_aload_n 0 rfl dL_law_282 ?_
  refine Mh_iload_n 3 rfl dL_law_283 ?_
  refine Mh_iconst (v := 3) dL_law_284 (by decide) ?_
  refine Mh_iadd dL_law_285 ?_
  refine Mh_sal rfl dL_law_286 ?_
  refine Mh_if_eq (tgt := 294) dL_law_287 (by decide) rfl (fun _ => ?_) (fun _ => ?_)
  · refine Mh_iconst (v := 0) dL_law_294 (by decide) ?_
    exact t_L_law_295 l E c0 s0 k18 hk18 _ _ _ _ _ _ _ _ _ _
  · refine Mh_iconst (v := 1) dL_law_290 (by decide) ?_
    refine Mh_goto (tgt := 295) dL_law_291 (by decide) ?_
    exact t_L_law_295 l E c0 s0 k18 hk18 _ _ _ _ _ _ _ _ _ _
def f_L_law_263 (L : Nat) (xs : Nat → Int32) (k18 : Nat → Nat → Int32 → Mm → Prop → Int32 × Mm × Prop) (l1 : Nat) (l2 : Nat) (l3 : Int32) (y3 : Int32) (y2 : Int32) (y1 : Int32) (y0 : Nat) (m : Mm) (o : Prop) : Int32 × Mm × Prop := bnd (F_X11_cow y0 y1 y2 y3 (xs (ix (l3 + (4 : Int32)))) m ((o ∧ vp_in (l3 + (4 : Int32)) L) ∧ gT m y0 = 11)) (fun v1 m1 o1 => f_L_law_271 L xs k18 l1 l2 l3 v1 m1 o1)
set_option maxRecDepth 10000 in
theorem t_L_law_263 (l : Launch) (E : En) (c0 s0 : Nat) (k18 : Nat → Nat → Int32 → Mm → Prop → Int32 × Mm × Prop) (hk18 : ∀ (l1 : Nat) (l2 : Nat) (l3 : Int32) (m : Mm) (o : Prop), Mh wI l E mi_L_law c0 s0 18 [(0, .ref 0), (1, .ref l1), (2, .ref l2), (3, .int l3)] [] m o (k18 l1 l2 l3 m o)) (l1 : Nat) (l2 : Nat) (l3 : Int32) (y3 : Int32) (y2 : Int32) (y1 : Int32) (y0 : Nat) (m : Mm) (o : Prop) : Mh wI l E mi_L_law c0 s0 263 [(0, .ref 0), (1, .ref l1), (2, .ref l2), (3, .int l3)] [.int y3, .int y2, .int y1, .ref y0] m o (f_L_law_263 E.2.2.2.2.2.2.1 E.2.2.2.2.2.2.2 k18 l1 l2 l3 y3 y2 y1 y0 m o) := by
  refine Mh_aload_n 0 rfl dL_law_263 ?_
  refine Mh_iload_n 3 rfl dL_law_264 ?_
  refine Mh_iconst (v := 4) dL_law_265 (by decide) ?_
  refine Mh_iadd dL_law_266 ?_
  refine Mh_sal rfl dL_law_267 ?_
  refine Mh_cvI (N := mi_X11_cow) (q := y0) (ci := 10) (as := [.int y1, .int y2, .int y3, .int (E.2.2.2.2.2.2.2 (ix (l3 + (4 : Int32))))]) (st := []) (id) cg_yX11_cow (by decide) rfl rfl ml_RL_18 iv_yX11_cow pd_yX11_cow rfl (by decide) (Nat.le_of_ble_eq_true rfl) rfl dL_law_268 (T_X11_cow l E _ _ _ _ _ _ _) rfl ?_
  exact t_L_law_271 l E c0 s0 k18 hk18 _ _ _ _ _ _
def f_L_law_346 (L : Nat) (xs : Nat → Int32) (k18 : Nat → Nat → Int32 → Mm → Prop → Int32 × Mm × Prop) (l1 : Nat) (l2 : Nat) (l3 : Int32) (y1 : Int32) (y0 : Int32) (m : Mm) (o : Prop) : Int32 × Mm × Prop := if y0 = y1 then (f_L_law_1121 L xs k18 l1 l2 l3 m o) else ((0 : Int32), m, o)
set_option maxRecDepth 10000 in
theorem t_L_law_346 (l : Launch) (E : En) (c0 s0 : Nat) (k18 : Nat → Nat → Int32 → Mm → Prop → Int32 × Mm × Prop) (hk18 : ∀ (l1 : Nat) (l2 : Nat) (l3 : Int32) (m : Mm) (o : Prop), Mh wI l E mi_L_law c0 s0 18 [(0, .ref 0), (1, .ref l1), (2, .ref l2), (3, .int l3)] [] m o (k18 l1 l2 l3 m o)) (l1 : Nat) (l2 : Nat) (l3 : Int32) (y1 : Int32) (y0 : Int32) (m : Mm) (o : Prop) : Mh wI l E mi_L_law c0 s0 346 [(0, .ref 0), (1, .ref l1), (2, .ref l2), (3, .int l3)] [.int y1, .int y0] m o (f_L_law_346 E.2.2.2.2.2.2.1 E.2.2.2.2.2.2.2 k18 l1 l2 l3 y1 y0 m o) := by
  refine Mh_icmp_eq (tgt := 1121) dL_law_346 (by decide) rfl (fun _ => ?_) (fun _ => ?_)
  · exact t_L_law_1121 l E c0 s0 k18 hk18 _ _ _ _ _
  · refine Mh_iconst (v := 0) dL_law_349 (by decide) ?_
    exact Mh_ret dL_law_350 rfl (fun _ => rk0Z) rfl
def f_L_law_327 (L : Nat) (xs : Nat → Int32) (k18 : Nat → Nat → Int32 → Mm → Prop → Int32 × Mm × Prop) (l1 : Nat) (l2 : Nat) (l3 : Int32) (y0 : Int32) (m : Mm) (o : Prop) : Int32 × Mm × Prop := bnd (F_X12_taste l2 (xs (ix (l3 + (1 : Int32)))) (xs (ix (l3 + (2 : Int32)))) (xs (ix (l3 + (3 : Int32)))) m ((((o ∧ vp_in (l3 + (1 : Int32)) L) ∧ vp_in (l3 + (2 : Int32)) L) ∧ vp_in (l3 + (3 : Int32)) L) ∧ gT m l2 = 12)) (fun v1 m1 o1 => f_L_law_346 L xs k18 l1 l2 l3 v1 y0 m1 o1)
set_option maxRecDepth 10000 in
theorem t_L_law_327 (l : Launch) (E : En) (c0 s0 : Nat) (k18 : Nat → Nat → Int32 → Mm → Prop → Int32 × Mm × Prop) (hk18 : ∀ (l1 : Nat) (l2 : Nat) (l3 : Int32) (m : Mm) (o : Prop), Mh wI l E mi_L_law c0 s0 18 [(0, .ref 0), (1, .ref l1), (2, .ref l2), (3, .int l3)] [] m o (k18 l1 l2 l3 m o)) (l1 : Nat) (l2 : Nat) (l3 : Int32) (y0 : Int32) (m : Mm) (o : Prop) : Mh wI l E mi_L_law c0 s0 327 [(0, .ref 0), (1, .ref l1), (2, .ref l2), (3, .int l3)] [.int y0] m o (f_L_law_327 E.2.2.2.2.2.2.1 E.2.2.2.2.2.2.2 k18 l1 l2 l3 y0 m o) := by
  refine Mh_aload_n 2 rfl dL_law_327 ?_
  refine Mh_aload_n 0 rfl dL_law_328 ?_
  refine Mh_iload_n 3 rfl dL_law_329 ?_
  refine Mh_iconst (v := 1) dL_law_330 (by decide) ?_
  refine Mh_iadd dL_law_331 ?_
  refine Mh_sal rfl dL_law_332 ?_
  refine Mh_aload_n 0 rfl dL_law_333 ?_
  refine Mh_iload_n 3 rfl dL_law_334 ?_
  refine Mh_iconst (v := 2) dL_law_335 (by decide) ?_
  refine Mh_iadd dL_law_336 ?_
  refine Mh_sal rfl dL_law_337 ?_
  refine Mh_aload_n 0 rfl dL_law_338 ?_
  refine Mh_iload_n 3 rfl dL_law_339 ?_
  refine Mh_iconst (v := 3) dL_law_340 (by decide) ?_
  refine Mh_iadd dL_law_341 ?_
  refine Mh_sal rfl dL_law_342 ?_
  refine Mh_cvI (N := mi_X12_taste) (q := l2) (ci := 11) (as := [.int (E.2.2.2.2.2.2.2 (ix (l3 + (1 : Int32)))), .int (E.2.2.2.2.2.2.2 (ix (l3 + (2 : Int32)))), .int (E.2.2.2.2.2.2.2 (ix (l3 + (3 : Int32))))]) (st := [.int y0]) (id) cg_yX12_taste (by decide) rfl rfl ml_RL_27 iv_yX12_taste pd_yX12_taste rfl (by decide) (Nat.le_of_ble_eq_true rfl) rfl dL_law_343 (T_X12_taste l E _ _ _ _ _ _) rfl ?_
  exact t_L_law_346 l E c0 s0 k18 hk18 _ _ _ _ _ _ _
def f_L_law_379 (L : Nat) (xs : Nat → Int32) (k18 : Nat → Nat → Int32 → Mm → Prop → Int32 × Mm × Prop) (l1 : Nat) (l2 : Nat) (l3 : Int32) (y1 : Int32) (y0 : Int32) (m : Mm) (o : Prop) : Int32 × Mm × Prop := if y0 = y1 then (f_L_law_1121 L xs k18 l1 l2 l3 m o) else ((0 : Int32), m, o)
set_option maxRecDepth 10000 in
theorem t_L_law_379 (l : Launch) (E : En) (c0 s0 : Nat) (k18 : Nat → Nat → Int32 → Mm → Prop → Int32 × Mm × Prop) (hk18 : ∀ (l1 : Nat) (l2 : Nat) (l3 : Int32) (m : Mm) (o : Prop), Mh wI l E mi_L_law c0 s0 18 [(0, .ref 0), (1, .ref l1), (2, .ref l2), (3, .int l3)] [] m o (k18 l1 l2 l3 m o)) (l1 : Nat) (l2 : Nat) (l3 : Int32) (y1 : Int32) (y0 : Int32) (m : Mm) (o : Prop) : Mh wI l E mi_L_law c0 s0 379 [(0, .ref 0), (1, .ref l1), (2, .ref l2), (3, .int l3)] [.int y1, .int y0] m o (f_L_law_379 E.2.2.2.2.2.2.1 E.2.2.2.2.2.2.2 k18 l1 l2 l3 y1 y0 m o) := by
  refine Mh_icmp_eq (tgt := 1121) dL_law_379 (by decide) rfl (fun _ => ?_) (fun _ => ?_)
  · exact t_L_law_1121 l E c0 s0 k18 hk18 _ _ _ _ _
  · refine Mh_iconst (v := 0) dL_law_382 (by decide) ?_
    exact Mh_ret dL_law_383 rfl (fun _ => rk0Z) rfl
def f_L_law_365 (L : Nat) (xs : Nat → Int32) (k18 : Nat → Nat → Int32 → Mm → Prop → Int32 × Mm × Prop) (l1 : Nat) (l2 : Nat) (l3 : Int32) (y0 : Int32) (m : Mm) (o : Prop) : Int32 × Mm × Prop := bnd (F_X12_salt l2 (xs (ix (l3 + (1 : Int32)))) (xs (ix (l3 + (2 : Int32)))) m (((o ∧ vp_in (l3 + (1 : Int32)) L) ∧ vp_in (l3 + (2 : Int32)) L) ∧ gT m l2 = 12)) (fun v1 m1 o1 => f_L_law_379 L xs k18 l1 l2 l3 v1 y0 m1 o1)
set_option maxRecDepth 10000 in
theorem t_L_law_365 (l : Launch) (E : En) (c0 s0 : Nat) (k18 : Nat → Nat → Int32 → Mm → Prop → Int32 × Mm × Prop) (hk18 : ∀ (l1 : Nat) (l2 : Nat) (l3 : Int32) (m : Mm) (o : Prop), Mh wI l E mi_L_law c0 s0 18 [(0, .ref 0), (1, .ref l1), (2, .ref l2), (3, .int l3)] [] m o (k18 l1 l2 l3 m o)) (l1 : Nat) (l2 : Nat) (l3 : Int32) (y0 : Int32) (m : Mm) (o : Prop) : Mh wI l E mi_L_law c0 s0 365 [(0, .ref 0), (1, .ref l1), (2, .ref l2), (3, .int l3)] [.int y0] m o (f_L_law_365 E.2.2.2.2.2.2.1 E.2.2.2.2.2.2.2 k18 l1 l2 l3 y0 m o) := by
  refine Mh_aload_n 2 rfl dL_law_365 ?_
  refine Mh_aload_n 0 rfl dL_law_366 ?_
  refine Mh_iload_n 3 rfl dL_law_367 ?_
  refine Mh_iconst (v := 1) dL_law_368 (by decide) ?_
  refine Mh_iadd dL_law_369 ?_
  refine Mh_sal rfl dL_law_370 ?_
  refine Mh_aload_n 0 rfl dL_law_371 ?_
  refine Mh_iload_n 3 rfl dL_law_372 ?_
  refine Mh_iconst (v := 2) dL_law_373 (by decide) ?_
  refine Mh_iadd dL_law_374 ?_
  refine Mh_sal rfl dL_law_375 ?_
  refine Mh_cvI (N := mi_X12_salt) (q := l2) (ci := 11) (as := [.int (E.2.2.2.2.2.2.2 (ix (l3 + (1 : Int32)))), .int (E.2.2.2.2.2.2.2 (ix (l3 + (2 : Int32))))]) (st := [.int y0]) (id) cg_yX12_salt (by decide) rfl rfl ml_RL_32 iv_yX12_salt pd_yX12_salt rfl (by decide) (Nat.le_of_ble_eq_true rfl) rfl dL_law_376 (T_X12_salt l E _ _ _ _ _) rfl ?_
  exact t_L_law_379 l E c0 s0 k18 hk18 _ _ _ _ _ _ _
def f_L_law_442 (L : Nat) (xs : Nat → Int32) (k18 : Nat → Nat → Int32 → Mm → Prop → Int32 × Mm × Prop) (l1 : Nat) (l2 : Nat) (l3 : Int32) (y1 : Int32) (y0 : Int32) (m : Mm) (o : Prop) : Int32 × Mm × Prop := if y0 = y1 then (f_L_law_1121 L xs k18 l1 l2 l3 m o) else ((0 : Int32), m, o)
set_option maxRecDepth 10000 in
theorem t_L_law_442 (l : Launch) (E : En) (c0 s0 : Nat) (k18 : Nat → Nat → Int32 → Mm → Prop → Int32 × Mm × Prop) (hk18 : ∀ (l1 : Nat) (l2 : Nat) (l3 : Int32) (m : Mm) (o : Prop), Mh wI l E mi_L_law c0 s0 18 [(0, .ref 0), (1, .ref l1), (2, .ref l2), (3, .int l3)] [] m o (k18 l1 l2 l3 m o)) (l1 : Nat) (l2 : Nat) (l3 : Int32) (y1 : Int32) (y0 : Int32) (m : Mm) (o : Prop) : Mh wI l E mi_L_law c0 s0 442 [(0, .ref 0), (1, .ref l1), (2, .ref l2), (3, .int l3)] [.int y1, .int y0] m o (f_L_law_442 E.2.2.2.2.2.2.1 E.2.2.2.2.2.2.2 k18 l1 l2 l3 y1 y0 m o) := by
  refine Mh_icmp_eq (tgt := 1121) dL_law_442 (by decide) rfl (fun _ => ?_) (fun _ => ?_)
  · exact t_L_law_1121 l E c0 s0 k18 hk18 _ _ _ _ _
  · refine Mh_iconst (v := 0) dL_law_445 (by decide) ?_
    exact Mh_ret dL_law_446 rfl (fun _ => rk0Z) rfl
def f_L_law_413 (L : Nat) (xs : Nat → Int32) (k18 : Nat → Nat → Int32 → Mm → Prop → Int32 × Mm × Prop) (l1 : Nat) (l2 : Nat) (l3 : Int32) (y0 : Int32) (m : Mm) (o : Prop) : Int32 × Mm × Prop := bnd (F_X12_feed l2 (xs (ix (l3 + (1 : Int32)))) (xs (ix (l3 + (2 : Int32)))) (xs (ix (l3 + (3 : Int32)))) (xs (ix (l3 + (4 : Int32)))) (xs (ix (l3 + (5 : Int32)))) m ((((((o ∧ vp_in (l3 + (1 : Int32)) L) ∧ vp_in (l3 + (2 : Int32)) L) ∧ vp_in (l3 + (3 : Int32)) L) ∧ vp_in (l3 + (4 : Int32)) L) ∧ vp_in (l3 + (5 : Int32)) L) ∧ gT m l2 = 12)) (fun v1 m1 o1 => f_L_law_442 L xs k18 l1 l2 l3 v1 y0 m1 o1)
set_option maxRecDepth 10000 in
theorem t_L_law_413 (l : Launch) (E : En) (c0 s0 : Nat) (k18 : Nat → Nat → Int32 → Mm → Prop → Int32 × Mm × Prop) (hk18 : ∀ (l1 : Nat) (l2 : Nat) (l3 : Int32) (m : Mm) (o : Prop), Mh wI l E mi_L_law c0 s0 18 [(0, .ref 0), (1, .ref l1), (2, .ref l2), (3, .int l3)] [] m o (k18 l1 l2 l3 m o)) (l1 : Nat) (l2 : Nat) (l3 : Int32) (y0 : Int32) (m : Mm) (o : Prop) : Mh wI l E mi_L_law c0 s0 413 [(0, .ref 0), (1, .ref l1), (2, .ref l2), (3, .int l3)] [.int y0] m o (f_L_law_413 E.2.2.2.2.2.2.1 E.2.2.2.2.2.2.2 k18 l1 l2 l3 y0 m o) := by
  refine Mh_aload_n 2 rfl dL_law_413 ?_
  refine Mh_aload_n 0 rfl dL_law_414 ?_
  refine Mh_iload_n 3 rfl dL_law_415 ?_
  refine Mh_iconst (v := 1) dL_law_416 (by decide) ?_
  refine Mh_iadd dL_law_417 ?_
  refine Mh_sal rfl dL_law_418 ?_
  refine Mh_aload_n 0 rfl dL_law_419 ?_
  refine Mh_iload_n 3 rfl dL_law_420 ?_
  refine Mh_iconst (v := 2) dL_law_421 (by decide) ?_
  refine Mh_iadd dL_law_422 ?_
  refine Mh_sal rfl dL_law_423 ?_
  refine Mh_aload_n 0 rfl dL_law_424 ?_
  refine Mh_iload_n 3 rfl dL_law_425 ?_
  refine Mh_iconst (v := 3) dL_law_426 (by decide) ?_
  refine Mh_iadd dL_law_427 ?_
  refine Mh_sal rfl dL_law_428 ?_
  refine Mh_aload_n 0 rfl dL_law_429 ?_
  refine Mh_iload_n 3 rfl dL_law_430 ?_
  refine Mh_iconst (v := 4) dL_law_431 (by decide) ?_
  refine Mh_iadd dL_law_432 ?_
  refine Mh_sal rfl dL_law_433 ?_
  refine Mh_aload_n 0 rfl dL_law_434 ?_
  refine Mh_iload_n 3 rfl dL_law_435 ?_
  refine Mh_iconst (v := 5) dL_law_436 (by decide) ?_
  refine Mh_iadd dL_law_437 ?_
  refine Mh_sal rfl dL_law_438 ?_
  refine Mh_cvI (N := mi_X12_feed) (q := l2) (ci := 11) (as := [.int (E.2.2.2.2.2.2.2 (ix (l3 + (1 : Int32)))), .int (E.2.2.2.2.2.2.2 (ix (l3 + (2 : Int32)))), .int (E.2.2.2.2.2.2.2 (ix (l3 + (3 : Int32)))), .int (E.2.2.2.2.2.2.2 (ix (l3 + (4 : Int32)))), .int (E.2.2.2.2.2.2.2 (ix (l3 + (5 : Int32))))]) (st := [.int y0]) (id) cg_yX12_feed (by decide) rfl rfl ml_RL_37 iv_yX12_feed pd_yX12_feed rfl (by decide) (Nat.le_of_ble_eq_true rfl) rfl dL_law_439 (T_X12_feed l E _ _ _ _ _ _ _ _) rfl ?_
  exact t_L_law_442 l E c0 s0 k18 hk18 _ _ _ _ _ _ _
def f_L_law_465 (L : Nat) (xs : Nat → Int32) (k18 : Nat → Nat → Int32 → Mm → Prop → Int32 × Mm × Prop) (l1 : Nat) (l2 : Nat) (l3 : Int32) (y1 : Int32) (y0 : Int32) (m : Mm) (o : Prop) : Int32 × Mm × Prop := if y0 = y1 then (f_L_law_1121 L xs k18 l1 l2 l3 m o) else ((0 : Int32), m, o)
set_option maxRecDepth 10000 in
theorem t_L_law_465 (l : Launch) (E : En) (c0 s0 : Nat) (k18 : Nat → Nat → Int32 → Mm → Prop → Int32 × Mm × Prop) (hk18 : ∀ (l1 : Nat) (l2 : Nat) (l3 : Int32) (m : Mm) (o : Prop), Mh wI l E mi_L_law c0 s0 18 [(0, .ref 0), (1, .ref l1), (2, .ref l2), (3, .int l3)] [] m o (k18 l1 l2 l3 m o)) (l1 : Nat) (l2 : Nat) (l3 : Int32) (y1 : Int32) (y0 : Int32) (m : Mm) (o : Prop) : Mh wI l E mi_L_law c0 s0 465 [(0, .ref 0), (1, .ref l1), (2, .ref l2), (3, .int l3)] [.int y1, .int y0] m o (f_L_law_465 E.2.2.2.2.2.2.1 E.2.2.2.2.2.2.2 k18 l1 l2 l3 y1 y0 m o) := by
  refine Mh_icmp_eq (tgt := 1121) dL_law_465 (by decide) rfl (fun _ => ?_) (fun _ => ?_)
  · exact t_L_law_1121 l E c0 s0 k18 hk18 _ _ _ _ _
  · refine Mh_iconst (v := 0) dL_law_468 (by decide) ?_
    exact Mh_ret dL_law_469 rfl (fun _ => rk0Z) rfl
def f_L_law_456 (L : Nat) (xs : Nat → Int32) (k18 : Nat → Nat → Int32 → Mm → Prop → Int32 × Mm × Prop) (l1 : Nat) (l2 : Nat) (l3 : Int32) (y0 : Int32) (m : Mm) (o : Prop) : Int32 × Mm × Prop := bnd (F_X12_law l2 (xs (ix (l3 + (1 : Int32)))) m ((o ∧ vp_in (l3 + (1 : Int32)) L) ∧ gT m l2 = 12)) (fun v1 m1 o1 => f_L_law_465 L xs k18 l1 l2 l3 v1 y0 m1 o1)
set_option maxRecDepth 10000 in
theorem t_L_law_456 (l : Launch) (E : En) (c0 s0 : Nat) (k18 : Nat → Nat → Int32 → Mm → Prop → Int32 × Mm × Prop) (hk18 : ∀ (l1 : Nat) (l2 : Nat) (l3 : Int32) (m : Mm) (o : Prop), Mh wI l E mi_L_law c0 s0 18 [(0, .ref 0), (1, .ref l1), (2, .ref l2), (3, .int l3)] [] m o (k18 l1 l2 l3 m o)) (l1 : Nat) (l2 : Nat) (l3 : Int32) (y0 : Int32) (m : Mm) (o : Prop) : Mh wI l E mi_L_law c0 s0 456 [(0, .ref 0), (1, .ref l1), (2, .ref l2), (3, .int l3)] [.int y0] m o (f_L_law_456 E.2.2.2.2.2.2.1 E.2.2.2.2.2.2.2 k18 l1 l2 l3 y0 m o) := by
  refine Mh_aload_n 2 rfl dL_law_456 ?_
  refine Mh_aload_n 0 rfl dL_law_457 ?_
  refine Mh_iload_n 3 rfl dL_law_458 ?_
  refine Mh_iconst (v := 1) dL_law_459 (by decide) ?_
  refine Mh_iadd dL_law_460 ?_
  refine Mh_sal rfl dL_law_461 ?_
  refine Mh_cvI (N := mi_X12_law) (q := l2) (ci := 11) (as := [.int (E.2.2.2.2.2.2.2 (ix (l3 + (1 : Int32))))]) (st := [.int y0]) (id) cg_yX12_law (by decide) rfl rfl ml_RL_42 iv_yX12_law pd_yX12_law rfl (by decide) (Nat.le_of_ble_eq_true rfl) rfl dL_law_462 (T_X12_law l E _ _ _ _) rfl ?_
  exact t_L_law_465 l E c0 s0 k18 hk18 _ _ _ _ _ _ _
def f_L_law_498 (L : Nat) (xs : Nat → Int32) (k18 : Nat → Nat → Int32 → Mm → Prop → Int32 × Mm × Prop) (l1 : Nat) (l2 : Nat) (l3 : Int32) (y1 : Int32) (y0 : Int32) (m : Mm) (o : Prop) : Int32 × Mm × Prop := if y0 = y1 then (f_L_law_1121 L xs k18 l1 l2 l3 m o) else ((0 : Int32), m, o)
set_option maxRecDepth 10000 in
theorem t_L_law_498 (l : Launch) (E : En) (c0 s0 : Nat) (k18 : Nat → Nat → Int32 → Mm → Prop → Int32 × Mm × Prop) (hk18 : ∀ (l1 : Nat) (l2 : Nat) (l3 : Int32) (m : Mm) (o : Prop), Mh wI l E mi_L_law c0 s0 18 [(0, .ref 0), (1, .ref l1), (2, .ref l2), (3, .int l3)] [] m o (k18 l1 l2 l3 m o)) (l1 : Nat) (l2 : Nat) (l3 : Int32) (y1 : Int32) (y0 : Int32) (m : Mm) (o : Prop) : Mh wI l E mi_L_law c0 s0 498 [(0, .ref 0), (1, .ref l1), (2, .ref l2), (3, .int l3)] [.int y1, .int y0] m o (f_L_law_498 E.2.2.2.2.2.2.1 E.2.2.2.2.2.2.2 k18 l1 l2 l3 y1 y0 m o) := by
  refine Mh_icmp_eq (tgt := 1121) dL_law_498 (by decide) rfl (fun _ => ?_) (fun _ => ?_)
  · exact t_L_law_1121 l E c0 s0 k18 hk18 _ _ _ _ _
  · refine Mh_iconst (v := 0) dL_law_501 (by decide) ?_
    exact Mh_ret dL_law_502 rfl (fun _ => rk0Z) rfl
def f_L_law_484 (L : Nat) (xs : Nat → Int32) (k18 : Nat → Nat → Int32 → Mm → Prop → Int32 × Mm × Prop) (l1 : Nat) (l2 : Nat) (l3 : Int32) (y0 : Int32) (m : Mm) (o : Prop) : Int32 × Mm × Prop := bnd (F_X12_would l2 (xs (ix (l3 + (1 : Int32)))) (xs (ix (l3 + (2 : Int32)))) m (((o ∧ vp_in (l3 + (1 : Int32)) L) ∧ vp_in (l3 + (2 : Int32)) L) ∧ gT m l2 = 12)) (fun v1 m1 o1 => f_L_law_498 L xs k18 l1 l2 l3 v1 y0 m1 o1)
set_option maxRecDepth 10000 in
theorem t_L_law_484 (l : Launch) (E : En) (c0 s0 : Nat) (k18 : Nat → Nat → Int32 → Mm → Prop → Int32 × Mm × Prop) (hk18 : ∀ (l1 : Nat) (l2 : Nat) (l3 : Int32) (m : Mm) (o : Prop), Mh wI l E mi_L_law c0 s0 18 [(0, .ref 0), (1, .ref l1), (2, .ref l2), (3, .int l3)] [] m o (k18 l1 l2 l3 m o)) (l1 : Nat) (l2 : Nat) (l3 : Int32) (y0 : Int32) (m : Mm) (o : Prop) : Mh wI l E mi_L_law c0 s0 484 [(0, .ref 0), (1, .ref l1), (2, .ref l2), (3, .int l3)] [.int y0] m o (f_L_law_484 E.2.2.2.2.2.2.1 E.2.2.2.2.2.2.2 k18 l1 l2 l3 y0 m o) := by
  refine Mh_aload_n 2 rfl dL_law_484 ?_
  refine Mh_aload_n 0 rfl dL_law_485 ?_
  refine Mh_iload_n 3 rfl dL_law_486 ?_
  refine Mh_iconst (v := 1) dL_law_487 (by decide) ?_
  refine Mh_iadd dL_law_488 ?_
  refine Mh_sal rfl dL_law_489 ?_
  refine Mh_aload_n 0 rfl dL_law_490 ?_
  refine Mh_iload_n 3 rfl dL_law_491 ?_
  refine Mh_iconst (v := 2) dL_law_492 (by decide) ?_
  refine Mh_iadd dL_law_493 ?_
  refine Mh_sal rfl dL_law_494 ?_
  refine Mh_cvI (N := mi_X12_would) (q := l2) (ci := 11) (as := [.int (E.2.2.2.2.2.2.2 (ix (l3 + (1 : Int32)))), .int (E.2.2.2.2.2.2.2 (ix (l3 + (2 : Int32))))]) (st := [.int y0]) (id) cg_yX12_would (by decide) rfl rfl ml_RL_47 iv_yX12_would pd_yX12_would rfl (by decide) (Nat.le_of_ble_eq_true rfl) rfl dL_law_495 (T_X12_would l E _ _ _ _ _) rfl ?_
  exact t_L_law_498 l E c0 s0 k18 hk18 _ _ _ _ _ _ _
def f_L_law_521 (L : Nat) (xs : Nat → Int32) (k18 : Nat → Nat → Int32 → Mm → Prop → Int32 × Mm × Prop) (l1 : Nat) (l2 : Nat) (l3 : Int32) (y1 : Int32) (y0 : Int32) (m : Mm) (o : Prop) : Int32 × Mm × Prop := if y0 = y1 then (f_L_law_1121 L xs k18 l1 l2 l3 m o) else ((0 : Int32), m, o)
set_option maxRecDepth 10000 in
theorem t_L_law_521 (l : Launch) (E : En) (c0 s0 : Nat) (k18 : Nat → Nat → Int32 → Mm → Prop → Int32 × Mm × Prop) (hk18 : ∀ (l1 : Nat) (l2 : Nat) (l3 : Int32) (m : Mm) (o : Prop), Mh wI l E mi_L_law c0 s0 18 [(0, .ref 0), (1, .ref l1), (2, .ref l2), (3, .int l3)] [] m o (k18 l1 l2 l3 m o)) (l1 : Nat) (l2 : Nat) (l3 : Int32) (y1 : Int32) (y0 : Int32) (m : Mm) (o : Prop) : Mh wI l E mi_L_law c0 s0 521 [(0, .ref 0), (1, .ref l1), (2, .ref l2), (3, .int l3)] [.int y1, .int y0] m o (f_L_law_521 E.2.2.2.2.2.2.1 E.2.2.2.2.2.2.2 k18 l1 l2 l3 y1 y0 m o) := by
  refine Mh_icmp_eq (tgt := 1121) dL_law_521 (by decide) rfl (fun _ => ?_) (fun _ => ?_)
  · exact t_L_law_1121 l E c0 s0 k18 hk18 _ _ _ _ _
  · refine Mh_iconst (v := 0) dL_law_524 (by decide) ?_
    exact Mh_ret dL_law_525 rfl (fun _ => rk0Z) rfl
def f_L_law_512 (L : Nat) (xs : Nat → Int32) (k18 : Nat → Nat → Int32 → Mm → Prop → Int32 × Mm × Prop) (l1 : Nat) (l2 : Nat) (l3 : Int32) (y0 : Int32) (m : Mm) (o : Prop) : Int32 × Mm × Prop := bnd (F_X12_chooses l2 (xs (ix (l3 + (1 : Int32)))) m ((o ∧ vp_in (l3 + (1 : Int32)) L) ∧ gT m l2 = 12)) (fun v1 m1 o1 => f_L_law_521 L xs k18 l1 l2 l3 v1 y0 m1 o1)
set_option maxRecDepth 10000 in
theorem t_L_law_512 (l : Launch) (E : En) (c0 s0 : Nat) (k18 : Nat → Nat → Int32 → Mm → Prop → Int32 × Mm × Prop) (hk18 : ∀ (l1 : Nat) (l2 : Nat) (l3 : Int32) (m : Mm) (o : Prop), Mh wI l E mi_L_law c0 s0 18 [(0, .ref 0), (1, .ref l1), (2, .ref l2), (3, .int l3)] [] m o (k18 l1 l2 l3 m o)) (l1 : Nat) (l2 : Nat) (l3 : Int32) (y0 : Int32) (m : Mm) (o : Prop) : Mh wI l E mi_L_law c0 s0 512 [(0, .ref 0), (1, .ref l1), (2, .ref l2), (3, .int l3)] [.int y0] m o (f_L_law_512 E.2.2.2.2.2.2.1 E.2.2.2.2.2.2.2 k18 l1 l2 l3 y0 m o) := by
  refine Mh_aload_n 2 rfl dL_law_512 ?_
  refine Mh_aload_n 0 rfl dL_law_513 ?_
  refine Mh_iload_n 3 rfl dL_law_514 ?_
  refine Mh_iconst (v := 1) dL_law_515 (by decide) ?_
  refine Mh_iadd dL_law_516 ?_
  refine Mh_sal rfl dL_law_517 ?_
  refine Mh_cvI (N := mi_X12_chooses) (q := l2) (ci := 11) (as := [.int (E.2.2.2.2.2.2.2 (ix (l3 + (1 : Int32))))]) (st := [.int y0]) (id) cg_yX12_chooses (by decide) rfl rfl ml_RL_51 iv_yX12_chooses pd_yX12_chooses rfl (by decide) (Nat.le_of_ble_eq_true rfl) rfl dL_law_518 (T_X12_chooses l E _ _ _ _) rfl ?_
  exact t_L_law_521 l E c0 s0 k18 hk18 _ _ _ _ _ _ _
def f_L_law_544 (L : Nat) (xs : Nat → Int32) (k18 : Nat → Nat → Int32 → Mm → Prop → Int32 × Mm × Prop) (l1 : Nat) (l2 : Nat) (l3 : Int32) (y1 : Int32) (y0 : Int32) (m : Mm) (o : Prop) : Int32 × Mm × Prop := if y0 = y1 then (f_L_law_1121 L xs k18 l1 l2 l3 m o) else ((0 : Int32), m, o)
set_option maxRecDepth 10000 in
theorem t_L_law_544 (l : Launch) (E : En) (c0 s0 : Nat) (k18 : Nat → Nat → Int32 → Mm → Prop → Int32 × Mm × Prop) (hk18 : ∀ (l1 : Nat) (l2 : Nat) (l3 : Int32) (m : Mm) (o : Prop), Mh wI l E mi_L_law c0 s0 18 [(0, .ref 0), (1, .ref l1), (2, .ref l2), (3, .int l3)] [] m o (k18 l1 l2 l3 m o)) (l1 : Nat) (l2 : Nat) (l3 : Int32) (y1 : Int32) (y0 : Int32) (m : Mm) (o : Prop) : Mh wI l E mi_L_law c0 s0 544 [(0, .ref 0), (1, .ref l1), (2, .ref l2), (3, .int l3)] [.int y1, .int y0] m o (f_L_law_544 E.2.2.2.2.2.2.1 E.2.2.2.2.2.2.2 k18 l1 l2 l3 y1 y0 m o) := by
  refine Mh_icmp_eq (tgt := 1121) dL_law_544 (by decide) rfl (fun _ => ?_) (fun _ => ?_)
  · exact t_L_law_1121 l E c0 s0 k18 hk18 _ _ _ _ _
  · refine Mh_iconst (v := 0) dL_law_547 (by decide) ?_
    exact Mh_ret dL_law_548 rfl (fun _ => rk0Z) rfl
def f_L_law_535 (L : Nat) (xs : Nat → Int32) (k18 : Nat → Nat → Int32 → Mm → Prop → Int32 × Mm × Prop) (l1 : Nat) (l2 : Nat) (l3 : Int32) (y0 : Int32) (m : Mm) (o : Prop) : Int32 × Mm × Prop := bnd (F_X12_days l2 (xs (ix (l3 + (1 : Int32)))) m ((o ∧ vp_in (l3 + (1 : Int32)) L) ∧ gT m l2 = 12)) (fun v1 m1 o1 => f_L_law_544 L xs k18 l1 l2 l3 v1 y0 m1 o1)
set_option maxRecDepth 10000 in
theorem t_L_law_535 (l : Launch) (E : En) (c0 s0 : Nat) (k18 : Nat → Nat → Int32 → Mm → Prop → Int32 × Mm × Prop) (hk18 : ∀ (l1 : Nat) (l2 : Nat) (l3 : Int32) (m : Mm) (o : Prop), Mh wI l E mi_L_law c0 s0 18 [(0, .ref 0), (1, .ref l1), (2, .ref l2), (3, .int l3)] [] m o (k18 l1 l2 l3 m o)) (l1 : Nat) (l2 : Nat) (l3 : Int32) (y0 : Int32) (m : Mm) (o : Prop) : Mh wI l E mi_L_law c0 s0 535 [(0, .ref 0), (1, .ref l1), (2, .ref l2), (3, .int l3)] [.int y0] m o (f_L_law_535 E.2.2.2.2.2.2.1 E.2.2.2.2.2.2.2 k18 l1 l2 l3 y0 m o) := by
  refine Mh_aload_n 2 rfl dL_law_535 ?_
  refine Mh_aload_n 0 rfl dL_law_536 ?_
  refine Mh_iload_n 3 rfl dL_law_537 ?_
  refine Mh_iconst (v := 1) dL_law_538 (by decide) ?_
  refine Mh_iadd dL_law_539 ?_
  refine Mh_sal rfl dL_law_540 ?_
  refine Mh_cvI (N := mi_X12_days) (q := l2) (ci := 11) (as := [.int (E.2.2.2.2.2.2.2 (ix (l3 + (1 : Int32))))]) (st := [.int y0]) (id) cg_yX12_days (by decide) rfl rfl ml_RL_55 iv_yX12_days pd_yX12_days rfl (by decide) (Nat.le_of_ble_eq_true rfl) rfl dL_law_541 (T_X12_days l E _ _ _ _) rfl ?_
  exact t_L_law_544 l E c0 s0 k18 hk18 _ _ _ _ _ _ _
def f_L_law_577 (L : Nat) (xs : Nat → Int32) (k18 : Nat → Nat → Int32 → Mm → Prop → Int32 × Mm × Prop) (l1 : Nat) (l2 : Nat) (l3 : Int32) (y1 : Int32) (y0 : Int32) (m : Mm) (o : Prop) : Int32 × Mm × Prop := if y0 = y1 then (f_L_law_1121 L xs k18 l1 l2 l3 m o) else ((0 : Int32), m, o)
set_option maxRecDepth 10000 in
theorem t_L_law_577 (l : Launch) (E : En) (c0 s0 : Nat) (k18 : Nat → Nat → Int32 → Mm → Prop → Int32 × Mm × Prop) (hk18 : ∀ (l1 : Nat) (l2 : Nat) (l3 : Int32) (m : Mm) (o : Prop), Mh wI l E mi_L_law c0 s0 18 [(0, .ref 0), (1, .ref l1), (2, .ref l2), (3, .int l3)] [] m o (k18 l1 l2 l3 m o)) (l1 : Nat) (l2 : Nat) (l3 : Int32) (y1 : Int32) (y0 : Int32) (m : Mm) (o : Prop) : Mh wI l E mi_L_law c0 s0 577 [(0, .ref 0), (1, .ref l1), (2, .ref l2), (3, .int l3)] [.int y1, .int y0] m o (f_L_law_577 E.2.2.2.2.2.2.1 E.2.2.2.2.2.2.2 k18 l1 l2 l3 y1 y0 m o) := by
  refine Mh_icmp_eq (tgt := 1121) dL_law_577 (by decide) rfl (fun _ => ?_) (fun _ => ?_)
  · exact t_L_law_1121 l E c0 s0 k18 hk18 _ _ _ _ _
  · refine Mh_iconst (v := 0) dL_law_580 (by decide) ?_
    exact Mh_ret dL_law_581 rfl (fun _ => rk0Z) rfl
def f_L_law_563 (L : Nat) (xs : Nat → Int32) (k18 : Nat → Nat → Int32 → Mm → Prop → Int32 × Mm × Prop) (l1 : Nat) (l2 : Nat) (l3 : Int32) (y0 : Int32) (m : Mm) (o : Prop) : Int32 × Mm × Prop := bnd (F_X12_run l2 (xs (ix (l3 + (1 : Int32)))) (xs (ix (l3 + (2 : Int32)))) m (((o ∧ vp_in (l3 + (1 : Int32)) L) ∧ vp_in (l3 + (2 : Int32)) L) ∧ gT m l2 = 12)) (fun v1 m1 o1 => f_L_law_577 L xs k18 l1 l2 l3 v1 y0 m1 o1)
set_option maxRecDepth 10000 in
theorem t_L_law_563 (l : Launch) (E : En) (c0 s0 : Nat) (k18 : Nat → Nat → Int32 → Mm → Prop → Int32 × Mm × Prop) (hk18 : ∀ (l1 : Nat) (l2 : Nat) (l3 : Int32) (m : Mm) (o : Prop), Mh wI l E mi_L_law c0 s0 18 [(0, .ref 0), (1, .ref l1), (2, .ref l2), (3, .int l3)] [] m o (k18 l1 l2 l3 m o)) (l1 : Nat) (l2 : Nat) (l3 : Int32) (y0 : Int32) (m : Mm) (o : Prop) : Mh wI l E mi_L_law c0 s0 563 [(0, .ref 0), (1, .ref l1), (2, .ref l2), (3, .int l3)] [.int y0] m o (f_L_law_563 E.2.2.2.2.2.2.1 E.2.2.2.2.2.2.2 k18 l1 l2 l3 y0 m o) := by
  refine Mh_aload_n 2 rfl dL_law_563 ?_
  refine Mh_aload_n 0 rfl dL_law_564 ?_
  refine Mh_iload_n 3 rfl dL_law_565 ?_
  refine Mh_iconst (v := 1) dL_law_566 (by decide) ?_
  refine Mh_iadd dL_law_567 ?_
  refine Mh_sal rfl dL_law_568 ?_
  refine Mh_aload_n 0 rfl dL_law_569 ?_
  refine Mh_iload_n 3 rfl dL_law_570 ?_
  refine Mh_iconst (v := 2) dL_law_571 (by decide) ?_
  refine Mh_iadd dL_law_572 ?_
  refine Mh_sal rfl dL_law_573 ?_
  refine Mh_cvI (N := mi_X12_run) (q := l2) (ci := 11) (as := [.int (E.2.2.2.2.2.2.2 (ix (l3 + (1 : Int32)))), .int (E.2.2.2.2.2.2.2 (ix (l3 + (2 : Int32))))]) (st := [.int y0]) (id) cg_yX12_run (by decide) rfl rfl ml_RL_59 iv_yX12_run pd_yX12_run rfl (by decide) (Nat.le_of_ble_eq_true rfl) rfl dL_law_574 (T_X12_run l E _ _ _ _ _) rfl ?_
  exact t_L_law_577 l E c0 s0 k18 hk18 _ _ _ _ _ _ _
def f_L_law_610 (L : Nat) (xs : Nat → Int32) (k18 : Nat → Nat → Int32 → Mm → Prop → Int32 × Mm × Prop) (l1 : Nat) (l2 : Nat) (l3 : Int32) (y1 : Int32) (y0 : Int32) (m : Mm) (o : Prop) : Int32 × Mm × Prop := if y0 = y1 then (f_L_law_1121 L xs k18 l1 l2 l3 m o) else ((0 : Int32), m, o)
set_option maxRecDepth 10000 in
theorem t_L_law_610 (l : Launch) (E : En) (c0 s0 : Nat) (k18 : Nat → Nat → Int32 → Mm → Prop → Int32 × Mm × Prop) (hk18 : ∀ (l1 : Nat) (l2 : Nat) (l3 : Int32) (m : Mm) (o : Prop), Mh wI l E mi_L_law c0 s0 18 [(0, .ref 0), (1, .ref l1), (2, .ref l2), (3, .int l3)] [] m o (k18 l1 l2 l3 m o)) (l1 : Nat) (l2 : Nat) (l3 : Int32) (y1 : Int32) (y0 : Int32) (m : Mm) (o : Prop) : Mh wI l E mi_L_law c0 s0 610 [(0, .ref 0), (1, .ref l1), (2, .ref l2), (3, .int l3)] [.int y1, .int y0] m o (f_L_law_610 E.2.2.2.2.2.2.1 E.2.2.2.2.2.2.2 k18 l1 l2 l3 y1 y0 m o) := by
  refine Mh_icmp_eq (tgt := 1121) dL_law_610 (by decide) rfl (fun _ => ?_) (fun _ => ?_)
  · exact t_L_law_1121 l E c0 s0 k18 hk18 _ _ _ _ _
  · refine Mh_iconst (v := 0) dL_law_613 (by decide) ?_
    exact Mh_ret dL_law_614 rfl (fun _ => rk0Z) rfl
def f_L_law_596 (L : Nat) (xs : Nat → Int32) (k18 : Nat → Nat → Int32 → Mm → Prop → Int32 × Mm × Prop) (l1 : Nat) (l2 : Nat) (l3 : Int32) (y0 : Int32) (m : Mm) (o : Prop) : Int32 × Mm × Prop := bnd (F_X12_stackIs l2 (xs (ix (l3 + (1 : Int32)))) (xs (ix (l3 + (2 : Int32)))) m (((o ∧ vp_in (l3 + (1 : Int32)) L) ∧ vp_in (l3 + (2 : Int32)) L) ∧ gT m l2 = 12)) (fun v1 m1 o1 => f_L_law_610 L xs k18 l1 l2 l3 v1 y0 m1 o1)
set_option maxRecDepth 10000 in
theorem t_L_law_596 (l : Launch) (E : En) (c0 s0 : Nat) (k18 : Nat → Nat → Int32 → Mm → Prop → Int32 × Mm × Prop) (hk18 : ∀ (l1 : Nat) (l2 : Nat) (l3 : Int32) (m : Mm) (o : Prop), Mh wI l E mi_L_law c0 s0 18 [(0, .ref 0), (1, .ref l1), (2, .ref l2), (3, .int l3)] [] m o (k18 l1 l2 l3 m o)) (l1 : Nat) (l2 : Nat) (l3 : Int32) (y0 : Int32) (m : Mm) (o : Prop) : Mh wI l E mi_L_law c0 s0 596 [(0, .ref 0), (1, .ref l1), (2, .ref l2), (3, .int l3)] [.int y0] m o (f_L_law_596 E.2.2.2.2.2.2.1 E.2.2.2.2.2.2.2 k18 l1 l2 l3 y0 m o) := by
  refine Mh_aload_n 2 rfl dL_law_596 ?_
  refine Mh_aload_n 0 rfl dL_law_597 ?_
  refine Mh_iload_n 3 rfl dL_law_598 ?_
  refine Mh_iconst (v := 1) dL_law_599 (by decide) ?_
  refine Mh_iadd dL_law_600 ?_
  refine Mh_sal rfl dL_law_601 ?_
  refine Mh_aload_n 0 rfl dL_law_602 ?_
  refine Mh_iload_n 3 rfl dL_law_603 ?_
  refine Mh_iconst (v := 2) dL_law_604 (by decide) ?_
  refine Mh_iadd dL_law_605 ?_
  refine Mh_sal rfl dL_law_606 ?_
  refine Mh_cvI (N := mi_X12_stackIs) (q := l2) (ci := 11) (as := [.int (E.2.2.2.2.2.2.2 (ix (l3 + (1 : Int32)))), .int (E.2.2.2.2.2.2.2 (ix (l3 + (2 : Int32))))]) (st := [.int y0]) (id) cg_yX12_stackIs (by decide) rfl rfl ml_RL_63 iv_yX12_stackIs pd_yX12_stackIs rfl (by decide) (Nat.le_of_ble_eq_true rfl) rfl dL_law_607 (T_X12_stackIs l E _ _ _ _ _) rfl ?_
  exact t_L_law_610 l E c0 s0 k18 hk18 _ _ _ _ _ _ _
def f_L_law_643 (L : Nat) (xs : Nat → Int32) (k18 : Nat → Nat → Int32 → Mm → Prop → Int32 × Mm × Prop) (l1 : Nat) (l2 : Nat) (l3 : Int32) (y1 : Int32) (y0 : Int32) (m : Mm) (o : Prop) : Int32 × Mm × Prop := if y0 = y1 then (f_L_law_1121 L xs k18 l1 l2 l3 m o) else ((0 : Int32), m, o)
set_option maxRecDepth 10000 in
theorem t_L_law_643 (l : Launch) (E : En) (c0 s0 : Nat) (k18 : Nat → Nat → Int32 → Mm → Prop → Int32 × Mm × Prop) (hk18 : ∀ (l1 : Nat) (l2 : Nat) (l3 : Int32) (m : Mm) (o : Prop), Mh wI l E mi_L_law c0 s0 18 [(0, .ref 0), (1, .ref l1), (2, .ref l2), (3, .int l3)] [] m o (k18 l1 l2 l3 m o)) (l1 : Nat) (l2 : Nat) (l3 : Int32) (y1 : Int32) (y0 : Int32) (m : Mm) (o : Prop) : Mh wI l E mi_L_law c0 s0 643 [(0, .ref 0), (1, .ref l1), (2, .ref l2), (3, .int l3)] [.int y1, .int y0] m o (f_L_law_643 E.2.2.2.2.2.2.1 E.2.2.2.2.2.2.2 k18 l1 l2 l3 y1 y0 m o) := by
  refine Mh_icmp_eq (tgt := 1121) dL_law_643 (by decide) rfl (fun _ => ?_) (fun _ => ?_)
  · exact t_L_law_1121 l E c0 s0 k18 hk18 _ _ _ _ _
  · refine Mh_iconst (v := 0) dL_law_646 (by decide) ?_
    exact Mh_ret dL_law_647 rfl (fun _ => rk0Z) rfl
def f_L_law_629 (L : Nat) (xs : Nat → Int32) (k18 : Nat → Nat → Int32 → Mm → Prop → Int32 × Mm × Prop) (l1 : Nat) (l2 : Nat) (l3 : Int32) (y0 : Int32) (m : Mm) (o : Prop) : Int32 × Mm × Prop := bnd (F_X12_cowIs l2 (xs (ix (l3 + (1 : Int32)))) (xs (ix (l3 + (2 : Int32)))) m (((o ∧ vp_in (l3 + (1 : Int32)) L) ∧ vp_in (l3 + (2 : Int32)) L) ∧ gT m l2 = 12)) (fun v1 m1 o1 => f_L_law_643 L xs k18 l1 l2 l3 v1 y0 m1 o1)
set_option maxRecDepth 10000 in
theorem t_L_law_629 (l : Launch) (E : En) (c0 s0 : Nat) (k18 : Nat → Nat → Int32 → Mm → Prop → Int32 × Mm × Prop) (hk18 : ∀ (l1 : Nat) (l2 : Nat) (l3 : Int32) (m : Mm) (o : Prop), Mh wI l E mi_L_law c0 s0 18 [(0, .ref 0), (1, .ref l1), (2, .ref l2), (3, .int l3)] [] m o (k18 l1 l2 l3 m o)) (l1 : Nat) (l2 : Nat) (l3 : Int32) (y0 : Int32) (m : Mm) (o : Prop) : Mh wI l E mi_L_law c0 s0 629 [(0, .ref 0), (1, .ref l1), (2, .ref l2), (3, .int l3)] [.int y0] m o (f_L_law_629 E.2.2.2.2.2.2.1 E.2.2.2.2.2.2.2 k18 l1 l2 l3 y0 m o) := by
  refine Mh_aload_n 2 rfl dL_law_629 ?_
  refine Mh_aload_n 0 rfl dL_law_630 ?_
  refine Mh_iload_n 3 rfl dL_law_631 ?_
  refine Mh_iconst (v := 1) dL_law_632 (by decide) ?_
  refine Mh_iadd dL_law_633 ?_
  refine Mh_sal rfl dL_law_634 ?_
  refine Mh_aload_n 0 rfl dL_law_635 ?_
  refine Mh_iload_n 3 rfl dL_law_636 ?_
  refine Mh_iconst (v := 2) dL_law_637 (by decide) ?_
  refine Mh_iadd dL_law_638 ?_
  refine Mh_sal rfl dL_law_639 ?_
  refine Mh_cvI (N := mi_X12_cowIs) (q := l2) (ci := 11) (as := [.int (E.2.2.2.2.2.2.2 (ix (l3 + (1 : Int32)))), .int (E.2.2.2.2.2.2.2 (ix (l3 + (2 : Int32))))]) (st := [.int y0]) (id) cg_yX12_cowIs (by decide) rfl rfl ml_RL_67 iv_yX12_cowIs pd_yX12_cowIs rfl (by decide) (Nat.le_of_ble_eq_true rfl) rfl dL_law_640 (T_X12_cowIs l E _ _ _ _ _) rfl ?_
  exact t_L_law_643 l E c0 s0 k18 hk18 _ _ _ _ _ _ _
def f_L_law_676 (L : Nat) (xs : Nat → Int32) (k18 : Nat → Nat → Int32 → Mm → Prop → Int32 × Mm × Prop) (l1 : Nat) (l2 : Nat) (l3 : Int32) (y1 : Int32) (y0 : Int32) (m : Mm) (o : Prop) : Int32 × Mm × Prop := if y0 = y1 then (f_L_law_1121 L xs k18 l1 l2 l3 m o) else ((0 : Int32), m, o)
set_option maxRecDepth 10000 in
theorem t_L_law_676 (l : Launch) (E : En) (c0 s0 : Nat) (k18 : Nat → Nat → Int32 → Mm → Prop → Int32 × Mm × Prop) (hk18 : ∀ (l1 : Nat) (l2 : Nat) (l3 : Int32) (m : Mm) (o : Prop), Mh wI l E mi_L_law c0 s0 18 [(0, .ref 0), (1, .ref l1), (2, .ref l2), (3, .int l3)] [] m o (k18 l1 l2 l3 m o)) (l1 : Nat) (l2 : Nat) (l3 : Int32) (y1 : Int32) (y0 : Int32) (m : Mm) (o : Prop) : Mh wI l E mi_L_law c0 s0 676 [(0, .ref 0), (1, .ref l1), (2, .ref l2), (3, .int l3)] [.int y1, .int y0] m o (f_L_law_676 E.2.2.2.2.2.2.1 E.2.2.2.2.2.2.2 k18 l1 l2 l3 y1 y0 m o) := by
  refine Mh_icmp_eq (tgt := 1121) dL_law_676 (by decide) rfl (fun _ => ?_) (fun _ => ?_)
  · exact t_L_law_1121 l E c0 s0 k18 hk18 _ _ _ _ _
  · refine Mh_iconst (v := 0) dL_law_679 (by decide) ?_
    exact Mh_ret dL_law_680 rfl (fun _ => rk0Z) rfl
def f_L_law_662 (L : Nat) (xs : Nat → Int32) (k18 : Nat → Nat → Int32 → Mm → Prop → Int32 × Mm × Prop) (l1 : Nat) (l2 : Nat) (l3 : Int32) (y0 : Int32) (m : Mm) (o : Prop) : Int32 × Mm × Prop := bnd (F_X12_eaten l2 (xs (ix (l3 + (1 : Int32)))) (xs (ix (l3 + (2 : Int32)))) m (((o ∧ vp_in (l3 + (1 : Int32)) L) ∧ vp_in (l3 + (2 : Int32)) L) ∧ gT m l2 = 12)) (fun v1 m1 o1 => f_L_law_676 L xs k18 l1 l2 l3 v1 y0 m1 o1)
set_option maxRecDepth 10000 in
theorem t_L_law_662 (l : Launch) (E : En) (c0 s0 : Nat) (k18 : Nat → Nat → Int32 → Mm → Prop → Int32 × Mm × Prop) (hk18 : ∀ (l1 : Nat) (l2 : Nat) (l3 : Int32) (m : Mm) (o : Prop), Mh wI l E mi_L_law c0 s0 18 [(0, .ref 0), (1, .ref l1), (2, .ref l2), (3, .int l3)] [] m o (k18 l1 l2 l3 m o)) (l1 : Nat) (l2 : Nat) (l3 : Int32) (y0 : Int32) (m : Mm) (o : Prop) : Mh wI l E mi_L_law c0 s0 662 [(0, .ref 0), (1, .ref l1), (2, .ref l2), (3, .int l3)] [.int y0] m o (f_L_law_662 E.2.2.2.2.2.2.1 E.2.2.2.2.2.2.2 k18 l1 l2 l3 y0 m o) := by
  refine Mh_aload_n 2 rfl dL_law_662 ?_
  refine Mh_aload_n 0 rfl dL_law_663 ?_
  refine Mh_iload_n 3 rfl dL_law_664 ?_
  refine Mh_iconst (v := 1) dL_law_665 (by decide) ?_
  refine Mh_iadd dL_law_666 ?_
  refine Mh_sal rfl dL_law_667 ?_
  refine Mh_aload_n 0 rfl dL_law_668 ?_
  refine Mh_iload_n 3 rfl dL_law_669 ?_
  refine Mh_iconst (v := 2) dL_law_670 (by decide) ?_
  refine Mh_iadd dL_law_671 ?_
  refine Mh_sal rfl dL_law_672 ?_
  refine Mh_cvI (N := mi_X12_eaten) (q := l2) (ci := 11) (as := [.int (E.2.2.2.2.2.2.2 (ix (l3 + (1 : Int32)))), .int (E.2.2.2.2.2.2.2 (ix (l3 + (2 : Int32))))]) (st := [.int y0]) (id) cg_yX12_eaten (by decide) rfl rfl ml_RL_71 iv_yX12_eaten pd_yX12_eaten rfl (by decide) (Nat.le_of_ble_eq_true rfl) rfl dL_law_673 (T_X12_eaten l E _ _ _ _ _) rfl ?_
  exact t_L_law_676 l E c0 s0 k18 hk18 _ _ _ _ _ _ _
def f_L_law_699 (L : Nat) (xs : Nat → Int32) (k18 : Nat → Nat → Int32 → Mm → Prop → Int32 × Mm × Prop) (l1 : Nat) (l2 : Nat) (l3 : Int32) (y1 : Int32) (y0 : Int32) (m : Mm) (o : Prop) : Int32 × Mm × Prop := if y0 = y1 then (f_L_law_1121 L xs k18 l1 l2 l3 m o) else ((0 : Int32), m, o)
set_option maxRecDepth 10000 in
theorem t_L_law_699 (l : Launch) (E : En) (c0 s0 : Nat) (k18 : Nat → Nat → Int32 → Mm → Prop → Int32 × Mm × Prop) (hk18 : ∀ (l1 : Nat) (l2 : Nat) (l3 : Int32) (m : Mm) (o : Prop), Mh wI l E mi_L_law c0 s0 18 [(0, .ref 0), (1, .ref l1), (2, .ref l2), (3, .int l3)] [] m o (k18 l1 l2 l3 m o)) (l1 : Nat) (l2 : Nat) (l3 : Int32) (y1 : Int32) (y0 : Int32) (m : Mm) (o : Prop) : Mh wI l E mi_L_law c0 s0 699 [(0, .ref 0), (1, .ref l1), (2, .ref l2), (3, .int l3)] [.int y1, .int y0] m o (f_L_law_699 E.2.2.2.2.2.2.1 E.2.2.2.2.2.2.2 k18 l1 l2 l3 y1 y0 m o) := by
  refine Mh_icmp_eq (tgt := 1121) dL_law_699 (by decide) rfl (fun _ => ?_) (fun _ => ?_)
  · exact t_L_law_1121 l E c0 s0 k18 hk18 _ _ _ _ _
  · refine Mh_iconst (v := 0) dL_law_702 (by decide) ?_
    exact Mh_ret dL_law_703 rfl (fun _ => rk0Z) rfl
def f_L_law_690 (L : Nat) (xs : Nat → Int32) (k18 : Nat → Nat → Int32 → Mm → Prop → Int32 × Mm × Prop) (l1 : Nat) (l2 : Nat) (l3 : Int32) (y0 : Int32) (m : Mm) (o : Prop) : Int32 × Mm × Prop := bnd (F_X12_votes l2 (xs (ix (l3 + (1 : Int32)))) m ((o ∧ vp_in (l3 + (1 : Int32)) L) ∧ gT m l2 = 12)) (fun v1 m1 o1 => f_L_law_699 L xs k18 l1 l2 l3 v1 y0 m1 o1)
set_option maxRecDepth 10000 in
theorem t_L_law_690 (l : Launch) (E : En) (c0 s0 : Nat) (k18 : Nat → Nat → Int32 → Mm → Prop → Int32 × Mm × Prop) (hk18 : ∀ (l1 : Nat) (l2 : Nat) (l3 : Int32) (m : Mm) (o : Prop), Mh wI l E mi_L_law c0 s0 18 [(0, .ref 0), (1, .ref l1), (2, .ref l2), (3, .int l3)] [] m o (k18 l1 l2 l3 m o)) (l1 : Nat) (l2 : Nat) (l3 : Int32) (y0 : Int32) (m : Mm) (o : Prop) : Mh wI l E mi_L_law c0 s0 690 [(0, .ref 0), (1, .ref l1), (2, .ref l2), (3, .int l3)] [.int y0] m o (f_L_law_690 E.2.2.2.2.2.2.1 E.2.2.2.2.2.2.2 k18 l1 l2 l3 y0 m o) := by
  refine Mh_aload_n 2 rfl dL_law_690 ?_
  refine Mh_aload_n 0 rfl dL_law_691 ?_
  refine Mh_iload_n 3 rfl dL_law_692 ?_
  refine Mh_iconst (v := 1) dL_law_693 (by decide) ?_
  refine Mh_iadd dL_law_694 ?_
  refine Mh_sal rfl dL_law_695 ?_
  refine Mh_cvI (N := mi_X12_votes) (q := l2) (ci := 11) (as := [.int (E.2.2.2.2.2.2.2 (ix (l3 + (1 : Int32))))]) (st := [.int y0]) (id) cg_yX12_votes (by decide) rfl rfl ml_RL_75 iv_yX12_votes pd_yX12_votes rfl (by decide) (Nat.le_of_ble_eq_true rfl) rfl dL_law_696 (T_X12_votes l E _ _ _ _) rfl ?_
  exact t_L_law_699 l E c0 s0 k18 hk18 _ _ _ _ _ _ _
def f_L_law_742 (L : Nat) (xs : Nat → Int32) (k18 : Nat → Nat → Int32 → Mm → Prop → Int32 × Mm × Prop) (l1 : Nat) (l2 : Nat) (l3 : Int32) (y1 : Int32) (y0 : Int32) (m : Mm) (o : Prop) : Int32 × Mm × Prop := if y0 = y1 then (f_L_law_1121 L xs k18 l1 l2 l3 m o) else ((0 : Int32), m, o)
set_option maxRecDepth 10000 in
theorem t_L_law_742 (l : Launch) (E : En) (c0 s0 : Nat) (k18 : Nat → Nat → Int32 → Mm → Prop → Int32 × Mm × Prop) (hk18 : ∀ (l1 : Nat) (l2 : Nat) (l3 : Int32) (m : Mm) (o : Prop), Mh wI l E mi_L_law c0 s0 18 [(0, .ref 0), (1, .ref l1), (2, .ref l2), (3, .int l3)] [] m o (k18 l1 l2 l3 m o)) (l1 : Nat) (l2 : Nat) (l3 : Int32) (y1 : Int32) (y0 : Int32) (m : Mm) (o : Prop) : Mh wI l E mi_L_law c0 s0 742 [(0, .ref 0), (1, .ref l1), (2, .ref l2), (3, .int l3)] [.int y1, .int y0] m o (f_L_law_742 E.2.2.2.2.2.2.1 E.2.2.2.2.2.2.2 k18 l1 l2 l3 y1 y0 m o) := by
  refine Mh_icmp_eq (tgt := 1121) dL_law_742 (by decide) rfl (fun _ => ?_) (fun _ => ?_)
  · exact t_L_law_1121 l E c0 s0 k18 hk18 _ _ _ _ _
  · refine Mh_iconst (v := 0) dL_law_745 (by decide) ?_
    exact Mh_ret dL_law_746 rfl (fun _ => rk0Z) rfl
def f_L_law_723 (L : Nat) (xs : Nat → Int32) (k18 : Nat → Nat → Int32 → Mm → Prop → Int32 × Mm × Prop) (l1 : Nat) (l2 : Nat) (l3 : Int32) (y0 : Int32) (m : Mm) (o : Prop) : Int32 × Mm × Prop := bnd (F_X12_campaign l2 (xs (ix (l3 + (1 : Int32)))) (xs (ix (l3 + (2 : Int32)))) (xs (ix (l3 + (3 : Int32)))) m ((((o ∧ vp_in (l3 + (1 : Int32)) L) ∧ vp_in (l3 + (2 : Int32)) L) ∧ vp_in (l3 + (3 : Int32)) L) ∧ gT m l2 = 12)) (fun v1 m1 o1 => f_L_law_742 L xs k18 l1 l2 l3 v1 y0 m1 o1)
set_option maxRecDepth 10000 in
theorem t_L_law_723 (l : Launch) (E : En) (c0 s0 : Nat) (k18 : Nat → Nat → Int32 → Mm → Prop → Int32 × Mm × Prop) (hk18 : ∀ (l1 : Nat) (l2 : Nat) (l3 : Int32) (m : Mm) (o : Prop), Mh wI l E mi_L_law c0 s0 18 [(0, .ref 0), (1, .ref l1), (2, .ref l2), (3, .int l3)] [] m o (k18 l1 l2 l3 m o)) (l1 : Nat) (l2 : Nat) (l3 : Int32) (y0 : Int32) (m : Mm) (o : Prop) : Mh wI l E mi_L_law c0 s0 723 [(0, .ref 0), (1, .ref l1), (2, .ref l2), (3, .int l3)] [.int y0] m o (f_L_law_723 E.2.2.2.2.2.2.1 E.2.2.2.2.2.2.2 k18 l1 l2 l3 y0 m o) := by
  refine Mh_aload_n 2 rfl dL_law_723 ?_
  refine Mh_aload_n 0 rfl dL_law_724 ?_
  refine Mh_iload_n 3 rfl dL_law_725 ?_
  refine Mh_iconst (v := 1) dL_law_726 (by decide) ?_
  refine Mh_iadd dL_law_727 ?_
  refine Mh_sal rfl dL_law_728 ?_
  refine Mh_aload_n 0 rfl dL_law_729 ?_
  refine Mh_iload_n 3 rfl dL_law_730 ?_
  refine Mh_iconst (v := 2) dL_law_731 (by decide) ?_
  refine Mh_iadd dL_law_732 ?_
  refine Mh_sal rfl dL_law_733 ?_
  refine Mh_aload_n 0 rfl dL_law_734 ?_
  refine Mh_iload_n 3 rfl dL_law_735 ?_
  refine Mh_iconst (v := 3) dL_law_736 (by decide) ?_
  refine Mh_iadd dL_law_737 ?_
  refine Mh_sal rfl dL_law_738 ?_
  refine Mh_cvI (N := mi_X12_campaign) (q := l2) (ci := 11) (as := [.int (E.2.2.2.2.2.2.2 (ix (l3 + (1 : Int32)))), .int (E.2.2.2.2.2.2.2 (ix (l3 + (2 : Int32)))), .int (E.2.2.2.2.2.2.2 (ix (l3 + (3 : Int32))))]) (st := [.int y0]) (id) cg_yX12_campaign (by decide) rfl rfl ml_RL_80 iv_yX12_campaign pd_yX12_campaign rfl (by decide) (Nat.le_of_ble_eq_true rfl) rfl dL_law_739 (T_X12_campaign l E _ _ _ _ _ _) rfl ?_
  exact t_L_law_742 l E c0 s0 k18 hk18 _ _ _ _ _ _ _
def f_L_law_765 (L : Nat) (xs : Nat → Int32) (k18 : Nat → Nat → Int32 → Mm → Prop → Int32 × Mm × Prop) (l1 : Nat) (l2 : Nat) (l3 : Int32) (y1 : Int32) (y0 : Int32) (m : Mm) (o : Prop) : Int32 × Mm × Prop := if y0 = y1 then (f_L_law_1121 L xs k18 l1 l2 l3 m o) else ((0 : Int32), m, o)
set_option maxRecDepth 10000 in
theorem t_L_law_765 (l : Launch) (E : En) (c0 s0 : Nat) (k18 : Nat → Nat → Int32 → Mm → Prop → Int32 × Mm × Prop) (hk18 : ∀ (l1 : Nat) (l2 : Nat) (l3 : Int32) (m : Mm) (o : Prop), Mh wI l E mi_L_law c0 s0 18 [(0, .ref 0), (1, .ref l1), (2, .ref l2), (3, .int l3)] [] m o (k18 l1 l2 l3 m o)) (l1 : Nat) (l2 : Nat) (l3 : Int32) (y1 : Int32) (y0 : Int32) (m : Mm) (o : Prop) : Mh wI l E mi_L_law c0 s0 765 [(0, .ref 0), (1, .ref l1), (2, .ref l2), (3, .int l3)] [.int y1, .int y0] m o (f_L_law_765 E.2.2.2.2.2.2.1 E.2.2.2.2.2.2.2 k18 l1 l2 l3 y1 y0 m o) := by
  refine Mh_icmp_eq (tgt := 1121) dL_law_765 (by decide) rfl (fun _ => ?_) (fun _ => ?_)
  · exact t_L_law_1121 l E c0 s0 k18 hk18 _ _ _ _ _
  · refine Mh_iconst (v := 0) dL_law_768 (by decide) ?_
    exact Mh_ret dL_law_769 rfl (fun _ => rk0Z) rfl
def f_L_law_756 (L : Nat) (xs : Nat → Int32) (k18 : Nat → Nat → Int32 → Mm → Prop → Int32 × Mm × Prop) (l1 : Nat) (l2 : Nat) (l3 : Int32) (y0 : Int32) (m : Mm) (o : Prop) : Int32 × Mm × Prop := bnd (F_X12_power l2 (xs (ix (l3 + (1 : Int32)))) m ((o ∧ vp_in (l3 + (1 : Int32)) L) ∧ gT m l2 = 12)) (fun v1 m1 o1 => f_L_law_765 L xs k18 l1 l2 l3 v1 y0 m1 o1)
set_option maxRecDepth 10000 in
theorem t_L_law_756 (l : Launch) (E : En) (c0 s0 : Nat) (k18 : Nat → Nat → Int32 → Mm → Prop → Int32 × Mm × Prop) (hk18 : ∀ (l1 : Nat) (l2 : Nat) (l3 : Int32) (m : Mm) (o : Prop), Mh wI l E mi_L_law c0 s0 18 [(0, .ref 0), (1, .ref l1), (2, .ref l2), (3, .int l3)] [] m o (k18 l1 l2 l3 m o)) (l1 : Nat) (l2 : Nat) (l3 : Int32) (y0 : Int32) (m : Mm) (o : Prop) : Mh wI l E mi_L_law c0 s0 756 [(0, .ref 0), (1, .ref l1), (2, .ref l2), (3, .int l3)] [.int y0] m o (f_L_law_756 E.2.2.2.2.2.2.1 E.2.2.2.2.2.2.2 k18 l1 l2 l3 y0 m o) := by
  refine Mh_aload_n 2 rfl dL_law_756 ?_
  refine Mh_aload_n 0 rfl dL_law_757 ?_
  refine Mh_iload_n 3 rfl dL_law_758 ?_
  refine Mh_iconst (v := 1) dL_law_759 (by decide) ?_
  refine Mh_iadd dL_law_760 ?_
  refine Mh_sal rfl dL_law_761 ?_
  refine Mh_cvI (N := mi_X12_power) (q := l2) (ci := 11) (as := [.int (E.2.2.2.2.2.2.2 (ix (l3 + (1 : Int32))))]) (st := [.int y0]) (id) cg_yX12_power (by decide) rfl rfl ml_RL_84 iv_yX12_power pd_yX12_power rfl (by decide) (Nat.le_of_ble_eq_true rfl) rfl dL_law_762 (T_X12_power l E _ _ _ _) rfl ?_
  exact t_L_law_765 l E c0 s0 k18 hk18 _ _ _ _ _ _ _
def f_L_law_798 (L : Nat) (xs : Nat → Int32) (k18 : Nat → Nat → Int32 → Mm → Prop → Int32 × Mm × Prop) (l1 : Nat) (l2 : Nat) (l3 : Int32) (y1 : Int64) (y0 : Int64) (m : Mm) (o : Prop) : Int32 × Mm × Prop := if (lg_cmp y0 y1) = 0 then (f_L_law_1121 L xs k18 l1 l2 l3 m o) else ((0 : Int32), m, o)
set_option maxRecDepth 10000 in
theorem t_L_law_798 (l : Launch) (E : En) (c0 s0 : Nat) (k18 : Nat → Nat → Int32 → Mm → Prop → Int32 × Mm × Prop) (hk18 : ∀ (l1 : Nat) (l2 : Nat) (l3 : Int32) (m : Mm) (o : Prop), Mh wI l E mi_L_law c0 s0 18 [(0, .ref 0), (1, .ref l1), (2, .ref l2), (3, .int l3)] [] m o (k18 l1 l2 l3 m o)) (l1 : Nat) (l2 : Nat) (l3 : Int32) (y1 : Int64) (y0 : Int64) (m : Mm) (o : Prop) : Mh wI l E mi_L_law c0 s0 798 [(0, .ref 0), (1, .ref l1), (2, .ref l2), (3, .int l3)] [.long y1, .long y0] m o (f_L_law_798 E.2.2.2.2.2.2.1 E.2.2.2.2.2.2.2 k18 l1 l2 l3 y1 y0 m o) := by
  refine Mh_lcmp dL_law_798 ?_
  refine Mh_if_eq (tgt := 1121) dL_law_799 (by decide) rfl (fun _ => ?_) (fun _ => ?_)
  · exact t_L_law_1121 l E c0 s0 k18 hk18 _ _ _ _ _
  · refine Mh_iconst (v := 0) dL_law_802 (by decide) ?_
    exact Mh_ret dL_law_803 rfl (fun _ => rk0Z) rfl
def f_L_law_784 (L : Nat) (xs : Nat → Int32) (k18 : Nat → Nat → Int32 → Mm → Prop → Int32 × Mm × Prop) (l1 : Nat) (l2 : Nat) (l3 : Int32) (y0 : Int64) (m : Mm) (o : Prop) : Int32 × Mm × Prop := bnd (F_X12_share l2 (xs (ix (l3 + (1 : Int32)))) (xs (ix (l3 + (2 : Int32)))) m (((o ∧ vp_in (l3 + (1 : Int32)) L) ∧ vp_in (l3 + (2 : Int32)) L) ∧ gT m l2 = 12)) (fun v1 m1 o1 => f_L_law_798 L xs k18 l1 l2 l3 v1 y0 m1 o1)
set_option maxRecDepth 10000 in
theorem t_L_law_784 (l : Launch) (E : En) (c0 s0 : Nat) (k18 : Nat → Nat → Int32 → Mm → Prop → Int32 × Mm × Prop) (hk18 : ∀ (l1 : Nat) (l2 : Nat) (l3 : Int32) (m : Mm) (o : Prop), Mh wI l E mi_L_law c0 s0 18 [(0, .ref 0), (1, .ref l1), (2, .ref l2), (3, .int l3)] [] m o (k18 l1 l2 l3 m o)) (l1 : Nat) (l2 : Nat) (l3 : Int32) (y0 : Int64) (m : Mm) (o : Prop) : Mh wI l E mi_L_law c0 s0 784 [(0, .ref 0), (1, .ref l1), (2, .ref l2), (3, .int l3)] [.long y0] m o (f_L_law_784 E.2.2.2.2.2.2.1 E.2.2.2.2.2.2.2 k18 l1 l2 l3 y0 m o) := by
  refine Mh_aload_n 2 rfl dL_law_784 ?_
  refine Mh_aload_n 0 rfl dL_law_785 ?_
  refine Mh_iload_n 3 rfl dL_law_786 ?_
  refine Mh_iconst (v := 1) dL_law_787 (by decide) ?_
  refine Mh_iadd dL_law_788 ?_
  refine Mh_sal rfl dL_law_789 ?_
  refine Mh_aload_n 0 rfl dL_law_790 ?_
  refine Mh_iload_n 3 rfl dL_law_791 ?_
  refine Mh_iconst (v := 2) dL_law_792 (by decide) ?_
  refine Mh_iadd dL_law_793 ?_
  refine Mh_sal rfl dL_law_794 ?_
  refine Mh_cvJ (N := mi_X12_share) (q := l2) (ci := 11) (as := [.int (E.2.2.2.2.2.2.2 (ix (l3 + (1 : Int32)))), .int (E.2.2.2.2.2.2.2 (ix (l3 + (2 : Int32))))]) (st := [.long y0]) (id) cg_yX12_share (by decide) rfl rfl ml_RL_89 iv_yX12_share pd_yX12_share rfl (by decide) (Nat.le_of_ble_eq_true rfl) rfl dL_law_795 (T_X12_share l E _ _ _ _ _) rfl ?_
  exact t_L_law_798 l E c0 s0 k18 hk18 _ _ _ _ _ _ _
def f_L_law_822 (L : Nat) (xs : Nat → Int32) (k18 : Nat → Nat → Int32 → Mm → Prop → Int32 × Mm × Prop) (l1 : Nat) (l2 : Nat) (l3 : Int32) (y1 : Int32) (y0 : Int32) (m : Mm) (o : Prop) : Int32 × Mm × Prop := if y0 = y1 then (f_L_law_1121 L xs k18 l1 l2 l3 m o) else ((0 : Int32), m, o)
set_option maxRecDepth 10000 in
theorem t_L_law_822 (l : Launch) (E : En) (c0 s0 : Nat) (k18 : Nat → Nat → Int32 → Mm → Prop → Int32 × Mm × Prop) (hk18 : ∀ (l1 : Nat) (l2 : Nat) (l3 : Int32) (m : Mm) (o : Prop), Mh wI l E mi_L_law c0 s0 18 [(0, .ref 0), (1, .ref l1), (2, .ref l2), (3, .int l3)] [] m o (k18 l1 l2 l3 m o)) (l1 : Nat) (l2 : Nat) (l3 : Int32) (y1 : Int32) (y0 : Int32) (m : Mm) (o : Prop) : Mh wI l E mi_L_law c0 s0 822 [(0, .ref 0), (1, .ref l1), (2, .ref l2), (3, .int l3)] [.int y1, .int y0] m o (f_L_law_822 E.2.2.2.2.2.2.1 E.2.2.2.2.2.2.2 k18 l1 l2 l3 y1 y0 m o) := by
  refine Mh_icmp_eq (tgt := 1121) dL_law_822 (by decide) rfl (fun _ => ?_) (fun _ => ?_)
  · exact t_L_law_1121 l E c0 s0 k18 hk18 _ _ _ _ _
  · refine Mh_iconst (v := 0) dL_law_825 (by decide) ?_
    exact Mh_ret dL_law_826 rfl (fun _ => rk0Z) rfl
def f_L_law_813 (L : Nat) (xs : Nat → Int32) (k18 : Nat → Nat → Int32 → Mm → Prop → Int32 × Mm × Prop) (l1 : Nat) (l2 : Nat) (l3 : Int32) (y0 : Int32) (m : Mm) (o : Prop) : Int32 × Mm × Prop := bnd (F_X12_seat l2 (xs (ix (l3 + (1 : Int32)))) m ((o ∧ vp_in (l3 + (1 : Int32)) L) ∧ gT m l2 = 12)) (fun v1 m1 o1 => f_L_law_822 L xs k18 l1 l2 l3 v1 y0 m1 o1)
set_option maxRecDepth 10000 in
theorem t_L_law_813 (l : Launch) (E : En) (c0 s0 : Nat) (k18 : Nat → Nat → Int32 → Mm → Prop → Int32 × Mm × Prop) (hk18 : ∀ (l1 : Nat) (l2 : Nat) (l3 : Int32) (m : Mm) (o : Prop), Mh wI l E mi_L_law c0 s0 18 [(0, .ref 0), (1, .ref l1), (2, .ref l2), (3, .int l3)] [] m o (k18 l1 l2 l3 m o)) (l1 : Nat) (l2 : Nat) (l3 : Int32) (y0 : Int32) (m : Mm) (o : Prop) : Mh wI l E mi_L_law c0 s0 813 [(0, .ref 0), (1, .ref l1), (2, .ref l2), (3, .int l3)] [.int y0] m o (f_L_law_813 E.2.2.2.2.2.2.1 E.2.2.2.2.2.2.2 k18 l1 l2 l3 y0 m o) := by
  refine Mh_aload_n 2 rfl dL_law_813 ?_
  refine Mh_aload_n 0 rfl dL_law_814 ?_
  refine Mh_iload_n 3 rfl dL_law_815 ?_
  refine Mh_iconst (v := 1) dL_law_816 (by decide) ?_
  refine Mh_iadd dL_law_817 ?_
  refine Mh_sal rfl dL_law_818 ?_
  refine Mh_cvI (N := mi_X12_seat) (q := l2) (ci := 11) (as := [.int (E.2.2.2.2.2.2.2 (ix (l3 + (1 : Int32))))]) (st := [.int y0]) (id) cg_yX12_seat (by decide) rfl rfl ml_RL_93 iv_yX12_seat pd_yX12_seat rfl (by decide) (Nat.le_of_ble_eq_true rfl) rfl dL_law_819 (T_X12_seat l E _ _ _ _) rfl ?_
  exact t_L_law_822 l E c0 s0 k18 hk18 _ _ _ _ _ _ _
def f_L_law_855 (L : Nat) (xs : Nat → Int32) (k18 : Nat → Nat → Int32 → Mm → Prop → Int32 × Mm × Prop) (l1 : Nat) (l2 : Nat) (l3 : Int32) (y1 : Int32) (y0 : Int32) (m : Mm) (o : Prop) : Int32 × Mm × Prop := if y0 = y1 then (f_L_law_1121 L xs k18 l1 l2 l3 m o) else ((0 : Int32), m, o)
set_option maxRecDepth 10000 in
theorem t_L_law_855 (l : Launch) (E : En) (c0 s0 : Nat) (k18 : Nat → Nat → Int32 → Mm → Prop → Int32 × Mm × Prop) (hk18 : ∀ (l1 : Nat) (l2 : Nat) (l3 : Int32) (m : Mm) (o : Prop), Mh wI l E mi_L_law c0 s0 18 [(0, .ref 0), (1, .ref l1), (2, .ref l2), (3, .int l3)] [] m o (k18 l1 l2 l3 m o)) (l1 : Nat) (l2 : Nat) (l3 : Int32) (y1 : Int32) (y0 : Int32) (m : Mm) (o : Prop) : Mh wI l E mi_L_law c0 s0 855 [(0, .ref 0), (1, .ref l1), (2, .ref l2), (3, .int l3)] [.int y1, .int y0] m o (f_L_law_855 E.2.2.2.2.2.2.1 E.2.2.2.2.2.2.2 k18 l1 l2 l3 y1 y0 m o) := by
  refine Mh_icmp_eq (tgt := 1121) dL_law_855 (by decide) rfl (fun _ => ?_) (fun _ => ?_)
  · exact t_L_law_1121 l E c0 s0 k18 hk18 _ _ _ _ _
  · refine Mh_iconst (v := 0) dL_law_858 (by decide) ?_
    exact Mh_ret dL_law_859 rfl (fun _ => rk0Z) rfl
def f_L_law_841 (L : Nat) (xs : Nat → Int32) (k18 : Nat → Nat → Int32 → Mm → Prop → Int32 × Mm × Prop) (l1 : Nat) (l2 : Nat) (l3 : Int32) (y0 : Int32) (m : Mm) (o : Prop) : Int32 × Mm × Prop := bnd (F_X12_cut l2 (xs (ix (l3 + (1 : Int32)))) (xs (ix (l3 + (2 : Int32)))) m (((o ∧ vp_in (l3 + (1 : Int32)) L) ∧ vp_in (l3 + (2 : Int32)) L) ∧ gT m l2 = 12)) (fun v1 m1 o1 => f_L_law_855 L xs k18 l1 l2 l3 v1 y0 m1 o1)
set_option maxRecDepth 10000 in
theorem t_L_law_841 (l : Launch) (E : En) (c0 s0 : Nat) (k18 : Nat → Nat → Int32 → Mm → Prop → Int32 × Mm × Prop) (hk18 : ∀ (l1 : Nat) (l2 : Nat) (l3 : Int32) (m : Mm) (o : Prop), Mh wI l E mi_L_law c0 s0 18 [(0, .ref 0), (1, .ref l1), (2, .ref l2), (3, .int l3)] [] m o (k18 l1 l2 l3 m o)) (l1 : Nat) (l2 : Nat) (l3 : Int32) (y0 : Int32) (m : Mm) (o : Prop) : Mh wI l E mi_L_law c0 s0 841 [(0, .ref 0), (1, .ref l1), (2, .ref l2), (3, .int l3)] [.int y0] m o (f_L_law_841 E.2.2.2.2.2.2.1 E.2.2.2.2.2.2.2 k18 l1 l2 l3 y0 m o) := by
  refine Mh_aload_n 2 rfl dL_law_841 ?_
  refine Mh_aload_n 0 rfl dL_law_842 ?_
  refine Mh_iload_n 3 rfl dL_law_843 ?_
  refine Mh_iconst (v := 1) dL_law_844 (by decide) ?_
  refine Mh_iadd dL_law_845 ?_
  refine Mh_sal rfl dL_law_846 ?_
  refine Mh_aload_n 0 rfl dL_law_847 ?_
  refine Mh_iload_n 3 rfl dL_law_848 ?_
  refine Mh_iconst (v := 2) dL_law_849 (by decide) ?_
  refine Mh_iadd dL_law_850 ?_
  refine Mh_sal rfl dL_law_851 ?_
  refine Mh_cvI (N := mi_X12_cut) (q := l2) (ci := 11) (as := [.int (E.2.2.2.2.2.2.2 (ix (l3 + (1 : Int32)))), .int (E.2.2.2.2.2.2.2 (ix (l3 + (2 : Int32))))]) (st := [.int y0]) (id) cg_yX12_cut (by decide) rfl rfl ml_RL_97 iv_yX12_cut pd_yX12_cut rfl (by decide) (Nat.le_of_ble_eq_true rfl) rfl dL_law_852 (T_X12_cut l E _ _ _ _ _) rfl ?_
  exact t_L_law_855 l E c0 s0 k18 hk18 _ _ _ _ _ _ _
def f_L_law_878 (L : Nat) (xs : Nat → Int32) (k18 : Nat → Nat → Int32 → Mm → Prop → Int32 × Mm × Prop) (l1 : Nat) (l2 : Nat) (l3 : Int32) (y1 : Int32) (y0 : Int32) (m : Mm) (o : Prop) : Int32 × Mm × Prop := if y0 = y1 then (f_L_law_1121 L xs k18 l1 l2 l3 m o) else ((0 : Int32), m, o)
set_option maxRecDepth 10000 in
theorem t_L_law_878 (l : Launch) (E : En) (c0 s0 : Nat) (k18 : Nat → Nat → Int32 → Mm → Prop → Int32 × Mm × Prop) (hk18 : ∀ (l1 : Nat) (l2 : Nat) (l3 : Int32) (m : Mm) (o : Prop), Mh wI l E mi_L_law c0 s0 18 [(0, .ref 0), (1, .ref l1), (2, .ref l2), (3, .int l3)] [] m o (k18 l1 l2 l3 m o)) (l1 : Nat) (l2 : Nat) (l3 : Int32) (y1 : Int32) (y0 : Int32) (m : Mm) (o : Prop) : Mh wI l E mi_L_law c0 s0 878 [(0, .ref 0), (1, .ref l1), (2, .ref l2), (3, .int l3)] [.int y1, .int y0] m o (f_L_law_878 E.2.2.2.2.2.2.1 E.2.2.2.2.2.2.2 k18 l1 l2 l3 y1 y0 m o) := by
  refine Mh_icmp_eq (tgt := 1121) dL_law_878 (by decide) rfl (fun _ => ?_) (fun _ => ?_)
  · exact t_L_law_1121 l E c0 s0 k18 hk18 _ _ _ _ _
  · refine Mh_iconst (v := 0) dL_law_881 (by decide) ?_
    exact Mh_ret dL_law_882 rfl (fun _ => rk0Z) rfl
def f_L_law_869 (L : Nat) (xs : Nat → Int32) (k18 : Nat → Nat → Int32 → Mm → Prop → Int32 × Mm × Prop) (l1 : Nat) (l2 : Nat) (l3 : Int32) (y0 : Int32) (m : Mm) (o : Prop) : Int32 × Mm × Prop := bnd (F_X12_foreseen l2 (xs (ix (l3 + (1 : Int32)))) m ((o ∧ vp_in (l3 + (1 : Int32)) L) ∧ gT m l2 = 12)) (fun v1 m1 o1 => f_L_law_878 L xs k18 l1 l2 l3 v1 y0 m1 o1)
set_option maxRecDepth 10000 in
theorem t_L_law_869 (l : Launch) (E : En) (c0 s0 : Nat) (k18 : Nat → Nat → Int32 → Mm → Prop → Int32 × Mm × Prop) (hk18 : ∀ (l1 : Nat) (l2 : Nat) (l3 : Int32) (m : Mm) (o : Prop), Mh wI l E mi_L_law c0 s0 18 [(0, .ref 0), (1, .ref l1), (2, .ref l2), (3, .int l3)] [] m o (k18 l1 l2 l3 m o)) (l1 : Nat) (l2 : Nat) (l3 : Int32) (y0 : Int32) (m : Mm) (o : Prop) : Mh wI l E mi_L_law c0 s0 869 [(0, .ref 0), (1, .ref l1), (2, .ref l2), (3, .int l3)] [.int y0] m o (f_L_law_869 E.2.2.2.2.2.2.1 E.2.2.2.2.2.2.2 k18 l1 l2 l3 y0 m o) := by
  refine Mh_aload_n 2 rfl dL_law_869 ?_
  refine Mh_aload_n 0 rfl dL_law_870 ?_
  refine Mh_iload_n 3 rfl dL_law_871 ?_
  refine Mh_iconst (v := 1) dL_law_872 (by decide) ?_
  refine Mh_iadd dL_law_873 ?_
  refine Mh_sal rfl dL_law_874 ?_
  refine Mh_cvI (N := mi_X12_foreseen) (q := l2) (ci := 11) (as := [.int (E.2.2.2.2.2.2.2 (ix (l3 + (1 : Int32))))]) (st := [.int y0]) (id) cg_yX12_foreseen (by decide) rfl rfl ml_RL_101 iv_yX12_foreseen pd_yX12_foreseen rfl (by decide) (Nat.le_of_ble_eq_true rfl) rfl dL_law_875 (T_X12_foreseen l E _ _ _ _) rfl ?_
  exact t_L_law_878 l E c0 s0 k18 hk18 _ _ _ _ _ _ _
def f_L_law_931 (L : Nat) (xs : Nat → Int32) (k18 : Nat → Nat → Int32 → Mm → Prop → Int32 × Mm × Prop) (l1 : Nat) (l2 : Nat) (l3 : Int32) (y1 : Int64) (y0 : Int64) (m : Mm) (o : Prop) : Int32 × Mm × Prop := if (lg_cmp y0 y1) = 0 then (f_L_law_1121 L xs k18 l1 l2 l3 m o) else ((0 : Int32), m, o)
set_option maxRecDepth 10000 in
theorem t_L_law_931 (l : Launch) (E : En) (c0 s0 : Nat) (k18 : Nat → Nat → Int32 → Mm → Prop → Int32 × Mm × Prop) (hk18 : ∀ (l1 : Nat) (l2 : Nat) (l3 : Int32) (m : Mm) (o : Prop), Mh wI l E mi_L_law c0 s0 18 [(0, .ref 0), (1, .ref l1), (2, .ref l2), (3, .int l3)] [] m o (k18 l1 l2 l3 m o)) (l1 : Nat) (l2 : Nat) (l3 : Int32) (y1 : Int64) (y0 : Int64) (m : Mm) (o : Prop) : Mh wI l E mi_L_law c0 s0 931 [(0, .ref 0), (1, .ref l1), (2, .ref l2), (3, .int l3)] [.long y1, .long y0] m o (f_L_law_931 E.2.2.2.2.2.2.1 E.2.2.2.2.2.2.2 k18 l1 l2 l3 y1 y0 m o) := by
  refine Mh_lcmp dL_law_931 ?_
  refine Mh_if_eq (tgt := 1121) dL_law_932 (by decide) rfl (fun _ => ?_) (fun _ => ?_)
  · exact t_L_law_1121 l E c0 s0 k18 hk18 _ _ _ _ _
  · refine Mh_iconst (v := 0) dL_law_935 (by decide) ?_
    exact Mh_ret dL_law_936 rfl (fun _ => rk0Z) rfl
def f_L_law_907 (L : Nat) (xs : Nat → Int32) (k18 : Nat → Nat → Int32 → Mm → Prop → Int32 × Mm × Prop) (l1 : Nat) (l2 : Nat) (l3 : Int32) (y0 : Int64) (m : Mm) (o : Prop) : Int32 × Mm × Prop := bnd (F_X12_burns l2 (xs (ix (l3 + (1 : Int32)))) (xs (ix (l3 + (2 : Int32)))) (xs (ix (l3 + (3 : Int32)))) (xs (ix (l3 + (4 : Int32)))) m (((((o ∧ vp_in (l3 + (1 : Int32)) L) ∧ vp_in (l3 + (2 : Int32)) L) ∧ vp_in (l3 + (3 : Int32)) L) ∧ vp_in (l3 + (4 : Int32)) L) ∧ gT m l2 = 12)) (fun v1 m1 o1 => f_L_law_931 L xs k18 l1 l2 l3 v1 y0 m1 o1)
set_option maxRecDepth 10000 in
theorem t_L_law_907 (l : Launch) (E : En) (c0 s0 : Nat) (k18 : Nat → Nat → Int32 → Mm → Prop → Int32 × Mm × Prop) (hk18 : ∀ (l1 : Nat) (l2 : Nat) (l3 : Int32) (m : Mm) (o : Prop), Mh wI l E mi_L_law c0 s0 18 [(0, .ref 0), (1, .ref l1), (2, .ref l2), (3, .int l3)] [] m o (k18 l1 l2 l3 m o)) (l1 : Nat) (l2 : Nat) (l3 : Int32) (y0 : Int64) (m : Mm) (o : Prop) : Mh wI l E mi_L_law c0 s0 907 [(0, .ref 0), (1, .ref l1), (2, .ref l2), (3, .int l3)] [.long y0] m o (f_L_law_907 E.2.2.2.2.2.2.1 E.2.2.2.2.2.2.2 k18 l1 l2 l3 y0 m o) := by
  refine Mh_aload_n 2 rfl dL_law_907 ?_
  refine Mh_aload_n 0 rfl dL_law_908 ?_
  refine Mh_iload_n 3 rfl dL_law_909 ?_
  refine Mh_iconst (v := 1) dL_law_910 (by decide) ?_
  refine Mh_iadd dL_law_911 ?_
  refine Mh_sal rfl dL_law_912 ?_
  refine Mh_aload_n 0 rfl dL_law_913 ?_
  refine Mh_iload_n 3 rfl dL_law_914 ?_
  refine Mh_iconst (v := 2) dL_law_915 (by decide) ?_
  refine Mh_iadd dL_law_916 ?_
  refine Mh_sal rfl dL_law_917 ?_
  refine Mh_aload_n 0 rfl dL_law_918 ?_
  refine Mh_iload_n 3 rfl dL_law_919 ?_
  refine Mh_iconst (v := 3) dL_law_920 (by decide) ?_
  refine Mh_iadd dL_law_921 ?_
  refine Mh_sal rfl dL_law_922 ?_
  refine Mh_aload_n 0 rfl dL_law_923 ?_
  refine Mh_iload_n 3 rfl dL_law_924 ?_
  refine Mh_iconst (v := 4) dL_law_925 (by decide) ?_
  refine Mh_iadd dL_law_926 ?_
  refine Mh_sal rfl dL_law_927 ?_
  refine Mh_cvJ (N := mi_X12_burns) (q := l2) (ci := 11) (as := [.int (E.2.2.2.2.2.2.2 (ix (l3 + (1 : Int32)))), .int (E.2.2.2.2.2.2.2 (ix (l3 + (2 : Int32)))), .int (E.2.2.2.2.2.2.2 (ix (l3 + (3 : Int32)))), .int (E.2.2.2.2.2.2.2 (ix (l3 + (4 : Int32))))]) (st := [.long y0]) (id) cg_yX12_burns (by decide) rfl rfl ml_RL_106 iv_yX12_burns pd_yX12_burns rfl (by decide) (Nat.le_of_ble_eq_true rfl) rfl dL_law_928 (T_X12_burns l E _ _ _ _ _ _ _) rfl ?_
  exact t_L_law_931 l E c0 s0 k18 hk18 _ _ _ _ _ _ _
def f_L_law_965 (L : Nat) (xs : Nat → Int32) (k18 : Nat → Nat → Int32 → Mm → Prop → Int32 × Mm × Prop) (l1 : Nat) (l2 : Nat) (l3 : Int32) (y1 : Int32) (y0 : Int32) (m : Mm) (o : Prop) : Int32 × Mm × Prop := if y0 = y1 then (f_L_law_1121 L xs k18 l1 l2 l3 m o) else ((0 : Int32), m, o)
set_option maxRecDepth 10000 in
theorem t_L_law_965 (l : Launch) (E : En) (c0 s0 : Nat) (k18 : Nat → Nat → Int32 → Mm → Prop → Int32 × Mm × Prop) (hk18 : ∀ (l1 : Nat) (l2 : Nat) (l3 : Int32) (m : Mm) (o : Prop), Mh wI l E mi_L_law c0 s0 18 [(0, .ref 0), (1, .ref l1), (2, .ref l2), (3, .int l3)] [] m o (k18 l1 l2 l3 m o)) (l1 : Nat) (l2 : Nat) (l3 : Int32) (y1 : Int32) (y0 : Int32) (m : Mm) (o : Prop) : Mh wI l E mi_L_law c0 s0 965 [(0, .ref 0), (1, .ref l1), (2, .ref l2), (3, .int l3)] [.int y1, .int y0] m o (f_L_law_965 E.2.2.2.2.2.2.1 E.2.2.2.2.2.2.2 k18 l1 l2 l3 y1 y0 m o) := by
  refine Mh_icmp_eq (tgt := 1121) dL_law_965 (by decide) rfl (fun _ => ?_) (fun _ => ?_)
  · exact t_L_law_1121 l E c0 s0 k18 hk18 _ _ _ _ _
  · refine Mh_iconst (v := 0) dL_law_968 (by decide) ?_
    exact Mh_ret dL_law_969 rfl (fun _ => rk0Z) rfl
def f_L_law_951 (L : Nat) (xs : Nat → Int32) (k18 : Nat → Nat → Int32 → Mm → Prop → Int32 × Mm × Prop) (l1 : Nat) (l2 : Nat) (l3 : Int32) (y0 : Int32) (m : Mm) (o : Prop) : Int32 × Mm × Prop := bnd (F_X12_salted l2 (xs (ix (l3 + (1 : Int32)))) (xs (ix (l3 + (2 : Int32)))) m (((o ∧ vp_in (l3 + (1 : Int32)) L) ∧ vp_in (l3 + (2 : Int32)) L) ∧ gT m l2 = 12)) (fun v1 m1 o1 => f_L_law_965 L xs k18 l1 l2 l3 v1 y0 m1 o1)
set_option maxRecDepth 10000 in
theorem t_L_law_951 (l : Launch) (E : En) (c0 s0 : Nat) (k18 : Nat → Nat → Int32 → Mm → Prop → Int32 × Mm × Prop) (hk18 : ∀ (l1 : Nat) (l2 : Nat) (l3 : Int32) (m : Mm) (o : Prop), Mh wI l E mi_L_law c0 s0 18 [(0, .ref 0), (1, .ref l1), (2, .ref l2), (3, .int l3)] [] m o (k18 l1 l2 l3 m o)) (l1 : Nat) (l2 : Nat) (l3 : Int32) (y0 : Int32) (m : Mm) (o : Prop) : Mh wI l E mi_L_law c0 s0 951 [(0, .ref 0), (1, .ref l1), (2, .ref l2), (3, .int l3)] [.int y0] m o (f_L_law_951 E.2.2.2.2.2.2.1 E.2.2.2.2.2.2.2 k18 l1 l2 l3 y0 m o) := by
  refine Mh_aload_n 2 rfl dL_law_951 ?_
  refine Mh_aload_n 0 rfl dL_law_952 ?_
  refine Mh_iload_n 3 rfl dL_law_953 ?_
  refine Mh_iconst (v := 1) dL_law_954 (by decide) ?_
  refine Mh_iadd dL_law_955 ?_
  refine Mh_sal rfl dL_law_956 ?_
  refine Mh_aload_n 0 rfl dL_law_957 ?_
  refine Mh_iload_n 3 rfl dL_law_958 ?_
  refine Mh_iconst (v := 2) dL_law_959 (by decide) ?_
  refine Mh_iadd dL_law_960 ?_
  refine Mh_sal rfl dL_law_961 ?_
  refine Mh_cvI (N := mi_X12_salted) (q := l2) (ci := 11) (as := [.int (E.2.2.2.2.2.2.2 (ix (l3 + (1 : Int32)))), .int (E.2.2.2.2.2.2.2 (ix (l3 + (2 : Int32))))]) (st := [.int y0]) (id) cg_yX12_salted (by decide) rfl rfl ml_RL_110 iv_yX12_salted pd_yX12_salted rfl (by decide) (Nat.le_of_ble_eq_true rfl) rfl dL_law_962 (T_X12_salted l E _ _ _ _ _) rfl ?_
  exact t_L_law_965 l E c0 s0 k18 hk18 _ _ _ _ _ _ _
def f_L_law_988 (L : Nat) (xs : Nat → Int32) (k18 : Nat → Nat → Int32 → Mm → Prop → Int32 × Mm × Prop) (l1 : Nat) (l2 : Nat) (l3 : Int32) (y1 : Int32) (y0 : Int32) (m : Mm) (o : Prop) : Int32 × Mm × Prop := if y0 = y1 then (f_L_law_1121 L xs k18 l1 l2 l3 m o) else ((0 : Int32), m, o)
set_option maxRecDepth 10000 in
theorem t_L_law_988 (l : Launch) (E : En) (c0 s0 : Nat) (k18 : Nat → Nat → Int32 → Mm → Prop → Int32 × Mm × Prop) (hk18 : ∀ (l1 : Nat) (l2 : Nat) (l3 : Int32) (m : Mm) (o : Prop), Mh wI l E mi_L_law c0 s0 18 [(0, .ref 0), (1, .ref l1), (2, .ref l2), (3, .int l3)] [] m o (k18 l1 l2 l3 m o)) (l1 : Nat) (l2 : Nat) (l3 : Int32) (y1 : Int32) (y0 : Int32) (m : Mm) (o : Prop) : Mh wI l E mi_L_law c0 s0 988 [(0, .ref 0), (1, .ref l1), (2, .ref l2), (3, .int l3)] [.int y1, .int y0] m o (f_L_law_988 E.2.2.2.2.2.2.1 E.2.2.2.2.2.2.2 k18 l1 l2 l3 y1 y0 m o) := by
  refine Mh_icmp_eq (tgt := 1121) dL_law_988 (by decide) rfl (fun _ => ?_) (fun _ => ?_)
  · exact t_L_law_1121 l E c0 s0 k18 hk18 _ _ _ _ _
  · refine Mh_iconst (v := 0) dL_law_991 (by decide) ?_
    exact Mh_ret dL_law_992 rfl (fun _ => rk0Z) rfl
def f_L_law_979 (L : Nat) (xs : Nat → Int32) (k18 : Nat → Nat → Int32 → Mm → Prop → Int32 × Mm × Prop) (l1 : Nat) (l2 : Nat) (l3 : Int32) (y0 : Int32) (m : Mm) (o : Prop) : Int32 × Mm × Prop := bnd (F_X12_storm l2 (xs (ix (l3 + (1 : Int32)))) m ((o ∧ vp_in (l3 + (1 : Int32)) L) ∧ gT m l2 = 12)) (fun v1 m1 o1 => f_L_law_988 L xs k18 l1 l2 l3 v1 y0 m1 o1)
set_option maxRecDepth 10000 in
theorem t_L_law_979 (l : Launch) (E : En) (c0 s0 : Nat) (k18 : Nat → Nat → Int32 → Mm → Prop → Int32 × Mm × Prop) (hk18 : ∀ (l1 : Nat) (l2 : Nat) (l3 : Int32) (m : Mm) (o : Prop), Mh wI l E mi_L_law c0 s0 18 [(0, .ref 0), (1, .ref l1), (2, .ref l2), (3, .int l3)] [] m o (k18 l1 l2 l3 m o)) (l1 : Nat) (l2 : Nat) (l3 : Int32) (y0 : Int32) (m : Mm) (o : Prop) : Mh wI l E mi_L_law c0 s0 979 [(0, .ref 0), (1, .ref l1), (2, .ref l2), (3, .int l3)] [.int y0] m o (f_L_law_979 E.2.2.2.2.2.2.1 E.2.2.2.2.2.2.2 k18 l1 l2 l3 y0 m o) := by
  refine Mh_aload_n 2 rfl dL_law_979 ?_
  refine Mh_aload_n 0 rfl dL_law_980 ?_
  refine Mh_iload_n 3 rfl dL_law_981 ?_
  refine Mh_iconst (v := 1) dL_law_982 (by decide) ?_
  refine Mh_iadd dL_law_983 ?_
  refine Mh_sal rfl dL_law_984 ?_
  refine Mh_cvI (N := mi_X12_storm) (q := l2) (ci := 11) (as := [.int (E.2.2.2.2.2.2.2 (ix (l3 + (1 : Int32))))]) (st := [.int y0]) (id) cg_yX12_storm (by decide) rfl rfl ml_RL_114 iv_yX12_storm pd_yX12_storm rfl (by decide) (Nat.le_of_ble_eq_true rfl) rfl dL_law_985 (T_X12_storm l E _ _ _ _) rfl ?_
  exact t_L_law_988 l E c0 s0 k18 hk18 _ _ _ _ _ _ _
def f_L_law_1011 (L : Nat) (xs : Nat → Int32) (k18 : Nat → Nat → Int32 → Mm → Prop → Int32 × Mm × Prop) (l1 : Nat) (l2 : Nat) (l3 : Int32) (y1 : Int32) (y0 : Int32) (m : Mm) (o : Prop) : Int32 × Mm × Prop := if y0 = y1 then (f_L_law_1121 L xs k18 l1 l2 l3 m o) else ((0 : Int32), m, o)
set_option maxRecDepth 10000 in
theorem t_L_law_1011 (l : Launch) (E : En) (c0 s0 : Nat) (k18 : Nat → Nat → Int32 → Mm → Prop → Int32 × Mm × Prop) (hk18 : ∀ (l1 : Nat) (l2 : Nat) (l3 : Int32) (m : Mm) (o : Prop), Mh wI l E mi_L_law c0 s0 18 [(0, .ref 0), (1, .ref l1), (2, .ref l2), (3, .int l3)] [] m o (k18 l1 l2 l3 m o)) (l1 : Nat) (l2 : Nat) (l3 : Int32) (y1 : Int32) (y0 : Int32) (m : Mm) (o : Prop) : Mh wI l E mi_L_law c0 s0 1011 [(0, .ref 0), (1, .ref l1), (2, .ref l2), (3, .int l3)] [.int y1, .int y0] m o (f_L_law_1011 E.2.2.2.2.2.2.1 E.2.2.2.2.2.2.2 k18 l1 l2 l3 y1 y0 m o) := by
  refine Mh_icmp_eq (tgt := 1121) dL_law_1011 (by decide) rfl (fun _ => ?_) (fun _ => ?_)
  · exact t_L_law_1121 l E c0 s0 k18 hk18 _ _ _ _ _
  · refine Mh_iconst (v := 0) dL_law_1014 (by decide) ?_
    exact Mh_ret dL_law_1015 rfl (fun _ => rk0Z) rfl
def f_L_law_1002 (L : Nat) (xs : Nat → Int32) (k18 : Nat → Nat → Int32 → Mm → Prop → Int32 × Mm × Prop) (l1 : Nat) (l2 : Nat) (l3 : Int32) (y0 : Int32) (m : Mm) (o : Prop) : Int32 × Mm × Prop := bnd (F_X12_seed l2 (xs (ix (l3 + (1 : Int32)))) m ((o ∧ vp_in (l3 + (1 : Int32)) L) ∧ gT m l2 = 12)) (fun v1 m1 o1 => f_L_law_1011 L xs k18 l1 l2 l3 v1 y0 m1 o1)
set_option maxRecDepth 10000 in
theorem t_L_law_1002 (l : Launch) (E : En) (c0 s0 : Nat) (k18 : Nat → Nat → Int32 → Mm → Prop → Int32 × Mm × Prop) (hk18 : ∀ (l1 : Nat) (l2 : Nat) (l3 : Int32) (m : Mm) (o : Prop), Mh wI l E mi_L_law c0 s0 18 [(0, .ref 0), (1, .ref l1), (2, .ref l2), (3, .int l3)] [] m o (k18 l1 l2 l3 m o)) (l1 : Nat) (l2 : Nat) (l3 : Int32) (y0 : Int32) (m : Mm) (o : Prop) : Mh wI l E mi_L_law c0 s0 1002 [(0, .ref 0), (1, .ref l1), (2, .ref l2), (3, .int l3)] [.int y0] m o (f_L_law_1002 E.2.2.2.2.2.2.1 E.2.2.2.2.2.2.2 k18 l1 l2 l3 y0 m o) := by
  refine Mh_aload_n 2 rfl dL_law_1002 ?_
  refine Mh_aload_n 0 rfl dL_law_1003 ?_
  refine Mh_iload_n 3 rfl dL_law_1004 ?_
  refine Mh_iconst (v := 1) dL_law_1005 (by decide) ?_
  refine Mh_iadd dL_law_1006 ?_
  refine Mh_sal rfl dL_law_1007 ?_
  refine Mh_cvI (N := mi_X12_seed) (q := l2) (ci := 11) (as := [.int (E.2.2.2.2.2.2.2 (ix (l3 + (1 : Int32))))]) (st := [.int y0]) (id) cg_yX12_seed (by decide) rfl rfl ml_RL_119 iv_yX12_seed pd_yX12_seed rfl (by decide) (Nat.le_of_ble_eq_true rfl) rfl dL_law_1008 (T_X12_seed l E _ _ _ _) rfl ?_
  exact t_L_law_1011 l E c0 s0 k18 hk18 _ _ _ _ _ _ _
def f_L_law_1034 (L : Nat) (xs : Nat → Int32) (k18 : Nat → Nat → Int32 → Mm → Prop → Int32 × Mm × Prop) (l1 : Nat) (l2 : Nat) (l3 : Int32) (y1 : Int32) (y0 : Int32) (m : Mm) (o : Prop) : Int32 × Mm × Prop := if y0 = y1 then (f_L_law_1121 L xs k18 l1 l2 l3 m o) else ((0 : Int32), m, o)
set_option maxRecDepth 10000 in
theorem t_L_law_1034 (l : Launch) (E : En) (c0 s0 : Nat) (k18 : Nat → Nat → Int32 → Mm → Prop → Int32 × Mm × Prop) (hk18 : ∀ (l1 : Nat) (l2 : Nat) (l3 : Int32) (m : Mm) (o : Prop), Mh wI l E mi_L_law c0 s0 18 [(0, .ref 0), (1, .ref l1), (2, .ref l2), (3, .int l3)] [] m o (k18 l1 l2 l3 m o)) (l1 : Nat) (l2 : Nat) (l3 : Int32) (y1 : Int32) (y0 : Int32) (m : Mm) (o : Prop) : Mh wI l E mi_L_law c0 s0 1034 [(0, .ref 0), (1, .ref l1), (2, .ref l2), (3, .int l3)] [.int y1, .int y0] m o (f_L_law_1034 E.2.2.2.2.2.2.1 E.2.2.2.2.2.2.2 k18 l1 l2 l3 y1 y0 m o) := by
  refine Mh_icmp_eq (tgt := 1121) dL_law_1034 (by decide) rfl (fun _ => ?_) (fun _ => ?_)
  · exact t_L_law_1121 l E c0 s0 k18 hk18 _ _ _ _ _
  · refine Mh_iconst (v := 0) dL_law_1037 (by decide) ?_
    exact Mh_ret dL_law_1038 rfl (fun _ => rk0Z) rfl
def f_L_law_1025 (L : Nat) (xs : Nat → Int32) (k18 : Nat → Nat → Int32 → Mm → Prop → Int32 × Mm × Prop) (l1 : Nat) (l2 : Nat) (l3 : Int32) (y0 : Int32) (m : Mm) (o : Prop) : Int32 × Mm × Prop := bnd (F_X12_draw l2 (xs (ix (l3 + (1 : Int32)))) m ((o ∧ vp_in (l3 + (1 : Int32)) L) ∧ gT m l2 = 12)) (fun v1 m1 o1 => f_L_law_1034 L xs k18 l1 l2 l3 v1 y0 m1 o1)
set_option maxRecDepth 10000 in
theorem t_L_law_1025 (l : Launch) (E : En) (c0 s0 : Nat) (k18 : Nat → Nat → Int32 → Mm → Prop → Int32 × Mm × Prop) (hk18 : ∀ (l1 : Nat) (l2 : Nat) (l3 : Int32) (m : Mm) (o : Prop), Mh wI l E mi_L_law c0 s0 18 [(0, .ref 0), (1, .ref l1), (2, .ref l2), (3, .int l3)] [] m o (k18 l1 l2 l3 m o)) (l1 : Nat) (l2 : Nat) (l3 : Int32) (y0 : Int32) (m : Mm) (o : Prop) : Mh wI l E mi_L_law c0 s0 1025 [(0, .ref 0), (1, .ref l1), (2, .ref l2), (3, .int l3)] [.int y0] m o (f_L_law_1025 E.2.2.2.2.2.2.1 E.2.2.2.2.2.2.2 k18 l1 l2 l3 y0 m o) := by
  refine Mh_aload_n 2 rfl dL_law_1025 ?_
  refine Mh_aload_n 0 rfl dL_law_1026 ?_
  refine Mh_iload_n 3 rfl dL_law_1027 ?_
  refine Mh_iconst (v := 1) dL_law_1028 (by decide) ?_
  refine Mh_iadd dL_law_1029 ?_
  refine Mh_sal rfl dL_law_1030 ?_
  refine Mh_cvI (N := mi_X12_draw) (q := l2) (ci := 11) (as := [.int (E.2.2.2.2.2.2.2 (ix (l3 + (1 : Int32))))]) (st := [.int y0]) (id) cg_yX12_draw (by decide) rfl rfl ml_RL_123 iv_yX12_draw pd_yX12_draw rfl (by decide) (Nat.le_of_ble_eq_true rfl) rfl dL_law_1031 (T_X12_draw l E _ _ _ _) rfl ?_
  exact t_L_law_1034 l E c0 s0 k18 hk18 _ _ _ _ _ _ _
def f_L_law_1047 (L : Nat) (xs : Nat → Int32) (k18 : Nat → Nat → Int32 → Mm → Prop → Int32 × Mm × Prop) (l1 : Nat) (l2 : Nat) (l3 : Int32) (y1 : Int32) (y0 : Int32) (m : Mm) (o : Prop) : Int32 × Mm × Prop := if y0 = y1 then (f_L_law_1121 L xs k18 l1 l2 l3 m o) else ((0 : Int32), m, o)
set_option maxRecDepth 10000 in
theorem t_L_law_1047 (l : Launch) (E : En) (c0 s0 : Nat) (k18 : Nat → Nat → Int32 → Mm → Prop → Int32 × Mm × Prop) (hk18 : ∀ (l1 : Nat) (l2 : Nat) (l3 : Int32) (m : Mm) (o : Prop), Mh wI l E mi_L_law c0 s0 18 [(0, .ref 0), (1, .ref l1), (2, .ref l2), (3, .int l3)] [] m o (k18 l1 l2 l3 m o)) (l1 : Nat) (l2 : Nat) (l3 : Int32) (y1 : Int32) (y0 : Int32) (m : Mm) (o : Prop) : Mh wI l E mi_L_law c0 s0 1047 [(0, .ref 0), (1, .ref l1), (2, .ref l2), (3, .int l3)] [.int y1, .int y0] m o (f_L_law_1047 E.2.2.2.2.2.2.1 E.2.2.2.2.2.2.2 k18 l1 l2 l3 y1 y0 m o) := by
  refine Mh_icmp_eq (tgt := 1121) dL_law_1047 (by decide) rfl (fun _ => ?_) (fun _ => ?_)
  · exact t_L_law_1121 l E c0 s0 k18 hk18 _ _ _ _ _
  · refine Mh_iconst (v := 0) dL_law_1050 (by decide) ?_
    exact Mh_ret dL_law_1051 rfl (fun _ => rk0Z) rfl
def f_L_law_1043 (L : Nat) (xs : Nat → Int32) (k18 : Nat → Nat → Int32 → Mm → Prop → Int32 × Mm × Prop) (l1 : Nat) (l2 : Nat) (l3 : Int32) (y0 : Int32) (m : Mm) (o : Prop) : Int32 × Mm × Prop := bnd (F_X12_keep l2 m (o ∧ gT m l2 = 12)) (fun v1 m1 o1 => f_L_law_1047 L xs k18 l1 l2 l3 v1 y0 m1 o1)
set_option maxRecDepth 10000 in
theorem t_L_law_1043 (l : Launch) (E : En) (c0 s0 : Nat) (k18 : Nat → Nat → Int32 → Mm → Prop → Int32 × Mm × Prop) (hk18 : ∀ (l1 : Nat) (l2 : Nat) (l3 : Int32) (m : Mm) (o : Prop), Mh wI l E mi_L_law c0 s0 18 [(0, .ref 0), (1, .ref l1), (2, .ref l2), (3, .int l3)] [] m o (k18 l1 l2 l3 m o)) (l1 : Nat) (l2 : Nat) (l3 : Int32) (y0 : Int32) (m : Mm) (o : Prop) : Mh wI l E mi_L_law c0 s0 1043 [(0, .ref 0), (1, .ref l1), (2, .ref l2), (3, .int l3)] [.int y0] m o (f_L_law_1043 E.2.2.2.2.2.2.1 E.2.2.2.2.2.2.2 k18 l1 l2 l3 y0 m o) := by
  refine Mh_aload_n 2 rfl dL_law_1043 ?_
  refine Mh_cvI (N := mi_X12_keep) (q := l2) (ci := 11) (as := []) (st := [.int y0]) (id) cg_yX12_keep (by decide) rfl rfl ml_RL_128 iv_yX12_keep pd_yX12_keep rfl (by decide) (Nat.le_of_ble_eq_true rfl) rfl dL_law_1044 (T_X12_keep l E _ _ _) rfl ?_
  exact t_L_law_1047 l E c0 s0 k18 hk18 _ _ _ _ _ _ _
def f_L_law_1060 (L : Nat) (xs : Nat → Int32) (k18 : Nat → Nat → Int32 → Mm → Prop → Int32 × Mm × Prop) (l1 : Nat) (l2 : Nat) (l3 : Int32) (y1 : Int32) (y0 : Int32) (m : Mm) (o : Prop) : Int32 × Mm × Prop := if y0 = y1 then (f_L_law_1121 L xs k18 l1 l2 l3 m o) else ((0 : Int32), m, o)
set_option maxRecDepth 10000 in
theorem t_L_law_1060 (l : Launch) (E : En) (c0 s0 : Nat) (k18 : Nat → Nat → Int32 → Mm → Prop → Int32 × Mm × Prop) (hk18 : ∀ (l1 : Nat) (l2 : Nat) (l3 : Int32) (m : Mm) (o : Prop), Mh wI l E mi_L_law c0 s0 18 [(0, .ref 0), (1, .ref l1), (2, .ref l2), (3, .int l3)] [] m o (k18 l1 l2 l3 m o)) (l1 : Nat) (l2 : Nat) (l3 : Int32) (y1 : Int32) (y0 : Int32) (m : Mm) (o : Prop) : Mh wI l E mi_L_law c0 s0 1060 [(0, .ref 0), (1, .ref l1), (2, .ref l2), (3, .int l3)] [.int y1, .int y0] m o (f_L_law_1060 E.2.2.2.2.2.2.1 E.2.2.2.2.2.2.2 k18 l1 l2 l3 y1 y0 m o) := by
  refine Mh_icmp_eq (tgt := 1121) dL_law_1060 (by decide) rfl (fun _ => ?_) (fun _ => ?_)
  · exact t_L_law_1121 l E c0 s0 k18 hk18 _ _ _ _ _
  · refine Mh_iconst (v := 0) dL_law_1063 (by decide) ?_
    exact Mh_ret dL_law_1064 rfl (fun _ => rk0Z) rfl
def f_L_law_1056 (L : Nat) (xs : Nat → Int32) (k18 : Nat → Nat → Int32 → Mm → Prop → Int32 × Mm × Prop) (l1 : Nat) (l2 : Nat) (l3 : Int32) (y0 : Int32) (m : Mm) (o : Prop) : Int32 × Mm × Prop := bnd (F_X12_undo l2 m (o ∧ gT m l2 = 12)) (fun v1 m1 o1 => f_L_law_1060 L xs k18 l1 l2 l3 v1 y0 m1 o1)
set_option maxRecDepth 10000 in
theorem t_L_law_1056 (l : Launch) (E : En) (c0 s0 : Nat) (k18 : Nat → Nat → Int32 → Mm → Prop → Int32 × Mm × Prop) (hk18 : ∀ (l1 : Nat) (l2 : Nat) (l3 : Int32) (m : Mm) (o : Prop), Mh wI l E mi_L_law c0 s0 18 [(0, .ref 0), (1, .ref l1), (2, .ref l2), (3, .int l3)] [] m o (k18 l1 l2 l3 m o)) (l1 : Nat) (l2 : Nat) (l3 : Int32) (y0 : Int32) (m : Mm) (o : Prop) : Mh wI l E mi_L_law c0 s0 1056 [(0, .ref 0), (1, .ref l1), (2, .ref l2), (3, .int l3)] [.int y0] m o (f_L_law_1056 E.2.2.2.2.2.2.1 E.2.2.2.2.2.2.2 k18 l1 l2 l3 y0 m o) := by
  refine Mh_aload_n 2 rfl dL_law_1056 ?_
  refine Mh_cvI (N := mi_X12_undo) (q := l2) (ci := 11) (as := []) (st := [.int y0]) (id) cg_yX12_undo (by decide) rfl rfl ml_RL_133 iv_yX12_undo pd_yX12_undo rfl (by decide) (Nat.le_of_ble_eq_true rfl) rfl dL_law_1057 (T_X12_undo l E _ _ _) rfl ?_
  exact t_L_law_1060 l E c0 s0 k18 hk18 _ _ _ _ _ _ _
def f_L_law_1093 (L : Nat) (xs : Nat → Int32) (k18 : Nat → Nat → Int32 → Mm → Prop → Int32 × Mm × Prop) (l1 : Nat) (l2 : Nat) (l3 : Int32) (y1 : Int32) (y0 : Int32) (m : Mm) (o : Prop) : Int32 × Mm × Prop := if y0 = y1 then (f_L_law_1121 L xs k18 l1 l2 l3 m o) else ((0 : Int32), m, o)
set_option maxRecDepth 10000 in
theorem t_L_law_1093 (l : Launch) (E : En) (c0 s0 : Nat) (k18 : Nat → Nat → Int32 → Mm → Prop → Int32 × Mm × Prop) (hk18 : ∀ (l1 : Nat) (l2 : Nat) (l3 : Int32) (m : Mm) (o : Prop), Mh wI l E mi_L_law c0 s0 18 [(0, .ref 0), (1, .ref l1), (2, .ref l2), (3, .int l3)] [] m o (k18 l1 l2 l3 m o)) (l1 : Nat) (l2 : Nat) (l3 : Int32) (y1 : Int32) (y0 : Int32) (m : Mm) (o : Prop) : Mh wI l E mi_L_law c0 s0 1093 [(0, .ref 0), (1, .ref l1), (2, .ref l2), (3, .int l3)] [.int y1, .int y0] m o (f_L_law_1093 E.2.2.2.2.2.2.1 E.2.2.2.2.2.2.2 k18 l1 l2 l3 y1 y0 m o) := by
  refine Mh_icmp_eq (tgt := 1121) dL_law_1093 (by decide) rfl (fun _ => ?_) (fun _ => ?_)
  · exact t_L_law_1121 l E c0 s0 k18 hk18 _ _ _ _ _
  · refine Mh_iconst (v := 0) dL_law_1096 (by decide) ?_
    exact Mh_ret dL_law_1097 rfl (fun _ => rk0Z) rfl
def f_L_law_1079 (L : Nat) (xs : Nat → Int32) (k18 : Nat → Nat → Int32 → Mm → Prop → Int32 × Mm × Prop) (l1 : Nat) (l2 : Nat) (l3 : Int32) (y0 : Int32) (m : Mm) (o : Prop) : Int32 × Mm × Prop := bnd (F_X12_check l2 (xs (ix (l3 + (1 : Int32)))) (xs (ix (l3 + (2 : Int32)))) m (((o ∧ vp_in (l3 + (1 : Int32)) L) ∧ vp_in (l3 + (2 : Int32)) L) ∧ gT m l2 = 12)) (fun v1 m1 o1 => f_L_law_1093 L xs k18 l1 l2 l3 v1 y0 m1 o1)
set_option maxRecDepth 10000 in
theorem t_L_law_1079 (l : Launch) (E : En) (c0 s0 : Nat) (k18 : Nat → Nat → Int32 → Mm → Prop → Int32 × Mm × Prop) (hk18 : ∀ (l1 : Nat) (l2 : Nat) (l3 : Int32) (m : Mm) (o : Prop), Mh wI l E mi_L_law c0 s0 18 [(0, .ref 0), (1, .ref l1), (2, .ref l2), (3, .int l3)] [] m o (k18 l1 l2 l3 m o)) (l1 : Nat) (l2 : Nat) (l3 : Int32) (y0 : Int32) (m : Mm) (o : Prop) : Mh wI l E mi_L_law c0 s0 1079 [(0, .ref 0), (1, .ref l1), (2, .ref l2), (3, .int l3)] [.int y0] m o (f_L_law_1079 E.2.2.2.2.2.2.1 E.2.2.2.2.2.2.2 k18 l1 l2 l3 y0 m o) := by
  refine Mh_aload_n 2 rfl dL_law_1079 ?_
  refine Mh_aload_n 0 rfl dL_law_1080 ?_
  refine Mh_iload_n 3 rfl dL_law_1081 ?_
  refine Mh_iconst (v := 1) dL_law_1082 (by decide) ?_
  refine Mh_iadd dL_law_1083 ?_
  refine Mh_sal rfl dL_law_1084 ?_
  refine Mh_aload_n 0 rfl dL_law_1085 ?_
  refine Mh_iload_n 3 rfl dL_law_1086 ?_
  refine Mh_iconst (v := 2) dL_law_1087 (by decide) ?_
  refine Mh_iadd dL_law_1088 ?_
  refine Mh_sal rfl dL_law_1089 ?_
  refine Mh_cvI (N := mi_X12_check) (q := l2) (ci := 11) (as := [.int (E.2.2.2.2.2.2.2 (ix (l3 + (1 : Int32)))), .int (E.2.2.2.2.2.2.2 (ix (l3 + (2 : Int32))))]) (st := [.int y0]) (id) cg_yX12_check (by decide) rfl rfl ml_RL_137 iv_yX12_check pd_yX12_check rfl (by decide) (Nat.le_of_ble_eq_true rfl) rfl dL_law_1090 (T_X12_check l E _ _ _ _ _) rfl ?_
  exact t_L_law_1093 l E c0 s0 k18 hk18 _ _ _ _ _ _ _
def f_L_law_1116 (L : Nat) (xs : Nat → Int32) (k18 : Nat → Nat → Int32 → Mm → Prop → Int32 × Mm × Prop) (l1 : Nat) (l2 : Nat) (l3 : Int32) (y1 : Int32) (y0 : Int32) (m : Mm) (o : Prop) : Int32 × Mm × Prop := if y0 = y1 then (f_L_law_1121 L xs k18 l1 l2 l3 m o) else ((0 : Int32), m, o)
set_option maxRecDepth 10000 in
theorem t_L_law_1116 (l : Launch) (E : En) (c0 s0 : Nat) (k18 : Nat → Nat → Int32 → Mm → Prop → Int32 × Mm × Prop) (hk18 : ∀ (l1 : Nat) (l2 : Nat) (l3 : Int32) (m : Mm) (o : Prop), Mh wI l E mi_L_law c0 s0 18 [(0, .ref 0), (1, .ref l1), (2, .ref l2), (3, .int l3)] [] m o (k18 l1 l2 l3 m o)) (l1 : Nat) (l2 : Nat) (l3 : Int32) (y1 : Int32) (y0 : Int32) (m : Mm) (o : Prop) : Mh wI l E mi_L_law c0 s0 1116 [(0, .ref 0), (1, .ref l1), (2, .ref l2), (3, .int l3)] [.int y1, .int y0] m o (f_L_law_1116 E.2.2.2.2.2.2.1 E.2.2.2.2.2.2.2 k18 l1 l2 l3 y1 y0 m o) := by
  refine Mh_icmp_eq (tgt := 1121) dL_law_1116 (by decide) rfl (fun _ => ?_) (fun _ => ?_)
  · exact t_L_law_1121 l E c0 s0 k18 hk18 _ _ _ _ _
  · refine Mh_iconst (v := 0) dL_law_1119 (by decide) ?_
    exact Mh_ret dL_law_1120 rfl (fun _ => rk0Z) rfl
def f_L_law_1107 (L : Nat) (xs : Nat → Int32) (k18 : Nat → Nat → Int32 → Mm → Prop → Int32 × Mm × Prop) (l1 : Nat) (l2 : Nat) (l3 : Int32) (y0 : Int32) (m : Mm) (o : Prop) : Int32 × Mm × Prop := bnd (F_X12_count l2 (xs (ix (l3 + (1 : Int32)))) m ((o ∧ vp_in (l3 + (1 : Int32)) L) ∧ gT m l2 = 12)) (fun v1 m1 o1 => f_L_law_1116 L xs k18 l1 l2 l3 v1 y0 m1 o1)
set_option maxRecDepth 10000 in
theorem t_L_law_1107 (l : Launch) (E : En) (c0 s0 : Nat) (k18 : Nat → Nat → Int32 → Mm → Prop → Int32 × Mm × Prop) (hk18 : ∀ (l1 : Nat) (l2 : Nat) (l3 : Int32) (m : Mm) (o : Prop), Mh wI l E mi_L_law c0 s0 18 [(0, .ref 0), (1, .ref l1), (2, .ref l2), (3, .int l3)] [] m o (k18 l1 l2 l3 m o)) (l1 : Nat) (l2 : Nat) (l3 : Int32) (y0 : Int32) (m : Mm) (o : Prop) : Mh wI l E mi_L_law c0 s0 1107 [(0, .ref 0), (1, .ref l1), (2, .ref l2), (3, .int l3)] [.int y0] m o (f_L_law_1107 E.2.2.2.2.2.2.1 E.2.2.2.2.2.2.2 k18 l1 l2 l3 y0 m o) := by
  refine Mh_aload_n 2 rfl dL_law_1107 ?_
  refine Mh_aload_n 0 rfl dL_law_1108 ?_
  refine Mh_iload_n 3 rfl dL_law_1109 ?_
  refine Mh_iconst (v := 1) dL_law_1110 (by decide) ?_
  refine Mh_iadd dL_law_1111 ?_
  refine Mh_sal rfl dL_law_1112 ?_
  refine Mh_cvI (N := mi_X12_count) (q := l2) (ci := 11) (as := [.int (E.2.2.2.2.2.2.2 (ix (l3 + (1 : Int32))))]) (st := [.int y0]) (id) cg_yX12_count (by decide) rfl rfl ml_RL_141 iv_yX12_count pd_yX12_count rfl (by decide) (Nat.le_of_ble_eq_true rfl) rfl dL_law_1113 (T_X12_count l E _ _ _ _) rfl ?_
  exact t_L_law_1116 l E c0 s0 k18 hk18 _ _ _ _ _ _ _
def f_L_law_18b (L : Nat) (xs : Nat → Int32) (k18 : Nat → Nat → Int32 → Mm → Prop → Int32 × Mm × Prop) (l1 : Nat) (l2 : Nat) (l3 : Int32) (m : Mm) (o : Prop) : Int32 × Mm × Prop := if ((Int32.ofNat L) - (7 : Int32)) < l3 then ((1 : Int32), m, o) else (if ((xs (ix l3)) &&& (31 : Int32)) = 0 then (bnd (F_X11_stack l1 (xs (ix (l3 + (1 : Int32)))) (xs (ix (l3 + (2 : Int32)))) (xs (ix (l3 + (3 : Int32)))) (xs (ix (l3 + (4 : Int32)))) (xs (ix (l3 + (5 : Int32)))) (xs (ix (l3 + (6 : Int32)))) m ((((((((o ∧ vp_in l3 L) ∧ vp_in (l3 + (1 : Int32)) L) ∧ vp_in (l3 + (2 : Int32)) L) ∧ vp_in (l3 + (3 : Int32)) L) ∧ vp_in (l3 + (4 : Int32)) L) ∧ vp_in (l3 + (5 : Int32)) L) ∧ vp_in (l3 + (6 : Int32)) L) ∧ gT m l1 = 11)) (fun v1 m1 o1 => f_L_law_199 L xs k18 l1 l2 l3 v1 m1 o1)) else if ((xs (ix l3)) &&& (31 : Int32)) = 1 then (if (xs (ix (l3 + (3 : Int32)))) = 0 then (f_L_law_263 L xs k18 l1 l2 l3 (0 : Int32) (xs (ix (l3 + (2 : Int32)))) (xs (ix (l3 + (1 : Int32)))) l1 m ((((o ∧ vp_in l3 L) ∧ vp_in (l3 + (1 : Int32)) L) ∧ vp_in (l3 + (2 : Int32)) L) ∧ vp_in (l3 + (3 : Int32)) L)) else (f_L_law_263 L xs k18 l1 l2 l3 (1 : Int32) (xs (ix (l3 + (2 : Int32)))) (xs (ix (l3 + (1 : Int32)))) l1 m ((((o ∧ vp_in l3 L) ∧ vp_in (l3 + (1 : Int32)) L) ∧ vp_in (l3 + (2 : Int32)) L) ∧ vp_in (l3 + (3 : Int32)) L))) else if ((xs (ix l3)) &&& (31 : Int32)) = 2 then (bnd (F_X11_taste l1 (xs (ix (l3 + (1 : Int32)))) (xs (ix (l3 + (2 : Int32)))) (xs (ix (l3 + (3 : Int32)))) m (((((o ∧ vp_in l3 L) ∧ vp_in (l3 + (1 : Int32)) L) ∧ vp_in (l3 + (2 : Int32)) L) ∧ vp_in (l3 + (3 : Int32)) L) ∧ gT m l1 = 11)) (fun v1 m1 o1 => f_L_law_327 L xs k18 l1 l2 l3 v1 m1 o1)) else if ((xs (ix l3)) &&& (31 : Int32)) = 3 then (bnd (F_X11_salt l1 (xs (ix (l3 + (1 : Int32)))) (xs (ix (l3 + (2 : Int32)))) m ((((o ∧ vp_in l3 L) ∧ vp_in (l3 + (1 : Int32)) L) ∧ vp_in (l3 + (2 : Int32)) L) ∧ gT m l1 = 11)) (fun v1 m1 o1 => f_L_law_365 L xs k18 l1 l2 l3 v1 m1 o1)) else if ((xs (ix l3)) &&& (31 : Int32)) = 4 then (bnd (F_X11_feed l1 (xs (ix (l3 + (1 : Int32)))) (xs (ix (l3 + (2 : Int32)))) (xs (ix (l3 + (3 : Int32)))) (xs (ix (l3 + (4 : Int32)))) (xs (ix (l3 + (5 : Int32)))) m (((((((o ∧ vp_in l3 L) ∧ vp_in (l3 + (1 : Int32)) L) ∧ vp_in (l3 + (2 : Int32)) L) ∧ vp_in (l3 + (3 : Int32)) L) ∧ vp_in (l3 + (4 : Int32)) L) ∧ vp_in (l3 + (5 : Int32)) L) ∧ gT m l1 = 11)) (fun v1 m1 o1 => f_L_law_413 L xs k18 l1 l2 l3 v1 m1 o1)) else if ((xs (ix l3)) &&& (31 : Int32)) = 5 then (bnd (F_X11_law l1 (xs (ix (l3 + (1 : Int32)))) m (((o ∧ vp_in l3 L) ∧ vp_in (l3 + (1 : Int32)) L) ∧ gT m l1 = 11)) (fun v1 m1 o1 => f_L_law_456 L xs k18 l1 l2 l3 v1 m1 o1)) else if ((xs (ix l3)) &&& (31 : Int32)) = 6 then (bnd (F_X11_would l1 (xs (ix (l3 + (1 : Int32)))) (xs (ix (l3 + (2 : Int32)))) m ((((o ∧ vp_in l3 L) ∧ vp_in (l3 + (1 : Int32)) L) ∧ vp_in (l3 + (2 : Int32)) L) ∧ gT m l1 = 11)) (fun v1 m1 o1 => f_L_law_484 L xs k18 l1 l2 l3 v1 m1 o1)) else if ((xs (ix l3)) &&& (31 : Int32)) = 7 then (bnd (F_X11_chooses l1 (xs (ix (l3 + (1 : Int32)))) m (((o ∧ vp_in l3 L) ∧ vp_in (l3 + (1 : Int32)) L) ∧ gT m l1 = 11)) (fun v1 m1 o1 => f_L_law_512 L xs k18 l1 l2 l3 v1 m1 o1)) else if ((xs (ix l3)) &&& (31 : Int32)) = 8 then (bnd (F_X11_days l1 (xs (ix (l3 + (1 : Int32)))) m (((o ∧ vp_in l3 L) ∧ vp_in (l3 + (1 : Int32)) L) ∧ gT m l1 = 11)) (fun v1 m1 o1 => f_L_law_535 L xs k18 l1 l2 l3 v1 m1 o1)) else if ((xs (ix l3)) &&& (31 : Int32)) = 9 then (bnd (F_X11_run l1 (xs (ix (l3 + (1 : Int32)))) (xs (ix (l3 + (2 : Int32)))) m ((((o ∧ vp_in l3 L) ∧ vp_in (l3 + (1 : Int32)) L) ∧ vp_in (l3 + (2 : Int32)) L) ∧ gT m l1 = 11)) (fun v1 m1 o1 => f_L_law_563 L xs k18 l1 l2 l3 v1 m1 o1)) else if ((xs (ix l3)) &&& (31 : Int32)) = 10 then (bnd (F_X11_stackIs l1 (xs (ix (l3 + (1 : Int32)))) (xs (ix (l3 + (2 : Int32)))) m ((((o ∧ vp_in l3 L) ∧ vp_in (l3 + (1 : Int32)) L) ∧ vp_in (l3 + (2 : Int32)) L) ∧ gT m l1 = 11)) (fun v1 m1 o1 => f_L_law_596 L xs k18 l1 l2 l3 v1 m1 o1)) else if ((xs (ix l3)) &&& (31 : Int32)) = 11 then (bnd (F_X11_cowIs l1 (xs (ix (l3 + (1 : Int32)))) (xs (ix (l3 + (2 : Int32)))) m ((((o ∧ vp_in l3 L) ∧ vp_in (l3 + (1 : Int32)) L) ∧ vp_in (l3 + (2 : Int32)) L) ∧ gT m l1 = 11)) (fun v1 m1 o1 => f_L_law_629 L xs k18 l1 l2 l3 v1 m1 o1)) else if ((xs (ix l3)) &&& (31 : Int32)) = 12 then (bnd (F_X11_eaten l1 (xs (ix (l3 + (1 : Int32)))) (xs (ix (l3 + (2 : Int32)))) m ((((o ∧ vp_in l3 L) ∧ vp_in (l3 + (1 : Int32)) L) ∧ vp_in (l3 + (2 : Int32)) L) ∧ gT m l1 = 11)) (fun v1 m1 o1 => f_L_law_662 L xs k18 l1 l2 l3 v1 m1 o1)) else if ((xs (ix l3)) &&& (31 : Int32)) = 13 then (bnd (F_X11_votes l1 (xs (ix (l3 + (1 : Int32)))) m (((o ∧ vp_in l3 L) ∧ vp_in (l3 + (1 : Int32)) L) ∧ gT m l1 = 11)) (fun v1 m1 o1 => f_L_law_690 L xs k18 l1 l2 l3 v1 m1 o1)) else if ((xs (ix l3)) &&& (31 : Int32)) = 14 then (bnd (F_X11_campaign l1 (xs (ix (l3 + (1 : Int32)))) (xs (ix (l3 + (2 : Int32)))) (xs (ix (l3 + (3 : Int32)))) m (((((o ∧ vp_in l3 L) ∧ vp_in (l3 + (1 : Int32)) L) ∧ vp_in (l3 + (2 : Int32)) L) ∧ vp_in (l3 + (3 : Int32)) L) ∧ gT m l1 = 11)) (fun v1 m1 o1 => f_L_law_723 L xs k18 l1 l2 l3 v1 m1 o1)) else if ((xs (ix l3)) &&& (31 : Int32)) = 15 then (bnd (F_X11_power l1 (xs (ix (l3 + (1 : Int32)))) m (((o ∧ vp_in l3 L) ∧ vp_in (l3 + (1 : Int32)) L) ∧ gT m l1 = 11)) (fun v1 m1 o1 => f_L_law_756 L xs k18 l1 l2 l3 v1 m1 o1)) else if ((xs (ix l3)) &&& (31 : Int32)) = 16 then (bnd (F_X11_share l1 (xs (ix (l3 + (1 : Int32)))) (xs (ix (l3 + (2 : Int32)))) m ((((o ∧ vp_in l3 L) ∧ vp_in (l3 + (1 : Int32)) L) ∧ vp_in (l3 + (2 : Int32)) L) ∧ gT m l1 = 11)) (fun v1 m1 o1 => f_L_law_784 L xs k18 l1 l2 l3 v1 m1 o1)) else if ((xs (ix l3)) &&& (31 : Int32)) = 17 then (bnd (F_X11_seat l1 (xs (ix (l3 + (1 : Int32)))) m (((o ∧ vp_in l3 L) ∧ vp_in (l3 + (1 : Int32)) L) ∧ gT m l1 = 11)) (fun v1 m1 o1 => f_L_law_813 L xs k18 l1 l2 l3 v1 m1 o1)) else if ((xs (ix l3)) &&& (31 : Int32)) = 18 then (bnd (F_X11_cut l1 (xs (ix (l3 + (1 : Int32)))) (xs (ix (l3 + (2 : Int32)))) m ((((o ∧ vp_in l3 L) ∧ vp_in (l3 + (1 : Int32)) L) ∧ vp_in (l3 + (2 : Int32)) L) ∧ gT m l1 = 11)) (fun v1 m1 o1 => f_L_law_841 L xs k18 l1 l2 l3 v1 m1 o1)) else if ((xs (ix l3)) &&& (31 : Int32)) = 19 then (bnd (F_X11_foreseen l1 (xs (ix (l3 + (1 : Int32)))) m (((o ∧ vp_in l3 L) ∧ vp_in (l3 + (1 : Int32)) L) ∧ gT m l1 = 11)) (fun v1 m1 o1 => f_L_law_869 L xs k18 l1 l2 l3 v1 m1 o1)) else if ((xs (ix l3)) &&& (31 : Int32)) = 20 then (bnd (F_X11_burns l1 (xs (ix (l3 + (1 : Int32)))) (xs (ix (l3 + (2 : Int32)))) (xs (ix (l3 + (3 : Int32)))) (xs (ix (l3 + (4 : Int32)))) m ((((((o ∧ vp_in l3 L) ∧ vp_in (l3 + (1 : Int32)) L) ∧ vp_in (l3 + (2 : Int32)) L) ∧ vp_in (l3 + (3 : Int32)) L) ∧ vp_in (l3 + (4 : Int32)) L) ∧ gT m l1 = 11)) (fun v1 m1 o1 => f_L_law_907 L xs k18 l1 l2 l3 v1 m1 o1)) else if ((xs (ix l3)) &&& (31 : Int32)) = 21 then (bnd (F_X11_salted l1 (xs (ix (l3 + (1 : Int32)))) (xs (ix (l3 + (2 : Int32)))) m ((((o ∧ vp_in l3 L) ∧ vp_in (l3 + (1 : Int32)) L) ∧ vp_in (l3 + (2 : Int32)) L) ∧ gT m l1 = 11)) (fun v1 m1 o1 => f_L_law_951 L xs k18 l1 l2 l3 v1 m1 o1)) else if ((xs (ix l3)) &&& (31 : Int32)) = 22 then (bnd (F_X11_storm l1 (xs (ix (l3 + (1 : Int32)))) m (((o ∧ vp_in l3 L) ∧ vp_in (l3 + (1 : Int32)) L) ∧ gT m l1 = 11)) (fun v1 m1 o1 => f_L_law_979 L xs k18 l1 l2 l3 v1 m1 o1)) else if ((xs (ix l3)) &&& (31 : Int32)) = 23 then (bnd (F_X11_seed l1 (xs (ix (l3 + (1 : Int32)))) m (((o ∧ vp_in l3 L) ∧ vp_in (l3 + (1 : Int32)) L) ∧ gT m l1 = 11)) (fun v1 m1 o1 => f_L_law_1002 L xs k18 l1 l2 l3 v1 m1 o1)) else if ((xs (ix l3)) &&& (31 : Int32)) = 24 then (bnd (F_X11_draw l1 (xs (ix (l3 + (1 : Int32)))) m (((o ∧ vp_in l3 L) ∧ vp_in (l3 + (1 : Int32)) L) ∧ gT m l1 = 11)) (fun v1 m1 o1 => f_L_law_1025 L xs k18 l1 l2 l3 v1 m1 o1)) else if ((xs (ix l3)) &&& (31 : Int32)) = 25 then (bnd (F_X11_keep l1 m ((o ∧ vp_in l3 L) ∧ gT m l1 = 11)) (fun v1 m1 o1 => f_L_law_1043 L xs k18 l1 l2 l3 v1 m1 o1)) else if ((xs (ix l3)) &&& (31 : Int32)) = 26 then (bnd (F_X11_undo l1 m ((o ∧ vp_in l3 L) ∧ gT m l1 = 11)) (fun v1 m1 o1 => f_L_law_1056 L xs k18 l1 l2 l3 v1 m1 o1)) else if ((xs (ix l3)) &&& (31 : Int32)) = 27 then (bnd (F_X11_check l1 (xs (ix (l3 + (1 : Int32)))) (xs (ix (l3 + (2 : Int32)))) m ((((o ∧ vp_in l3 L) ∧ vp_in (l3 + (1 : Int32)) L) ∧ vp_in (l3 + (2 : Int32)) L) ∧ gT m l1 = 11)) (fun v1 m1 o1 => f_L_law_1079 L xs k18 l1 l2 l3 v1 m1 o1)) else if ((xs (ix l3)) &&& (31 : Int32)) = 28 then (bnd (F_X11_count l1 (xs (ix (l3 + (1 : Int32)))) m (((o ∧ vp_in l3 L) ∧ vp_in (l3 + (1 : Int32)) L) ∧ gT m l1 = 11)) (fun v1 m1 o1 => f_L_law_1107 L xs k18 l1 l2 l3 v1 m1 o1)) else (f_L_law_1121 L xs k18 l1 l2 l3 m (o ∧ vp_in l3 L)))
set_option maxRecDepth 10000 in
theorem t_L_law_18b (l : Launch) (E : En) (c0 s0 : Nat) (k18 : Nat → Nat → Int32 → Mm → Prop → Int32 × Mm × Prop) (hk18 : ∀ (l1 : Nat) (l2 : Nat) (l3 : Int32) (m : Mm) (o : Prop), Mh wI l E mi_L_law c0 s0 18 [(0, .ref 0), (1, .ref l1), (2, .ref l2), (3, .int l3)] [] m o (k18 l1 l2 l3 m o)) (l1 : Nat) (l2 : Nat) (l3 : Int32) (m : Mm) (o : Prop) : Mh wI l E mi_L_law c0 s0 18 [(0, .ref 0), (1, .ref l1), (2, .ref l2), (3, .int l3)] [] m o (f_L_law_18b E.2.2.2.2.2.2.1 E.2.2.2.2.2.2.2 k18 l1 l2 l3 m o) := by
  refine Mh_iload_n 3 rfl dL_law_18 ?_
  refine Mh_aload_n 0 rfl dL_law_19 ?_
  refine Mh_sln rfl dL_law_20 ?_
  refine Mh_bipush (v := 7) dL_law_21 (by decide) ?_
  refine Mh_isub dL_law_23 ?_
  refine Mh_icmp_gt (tgt := 1127) dL_law_24 (by decide) rfl (fun _ => ?_) (fun _ => ?_)
  · refine Mh_iconst (v := 1) dL_law_1127 (by decide) ?_
    exact Mh_ret dL_law_1128 rfl (fun _ => rk1Z) rfl
  · refine Mh_aload_n 0 rfl dL_law_27 ?_
    refine Mh_iload_n 3 rfl dL_law_28 ?_
    refine Mh_sal rfl dL_law_29 ?_
    refine Mh_bipush (v := 31) dL_law_30 (by decide) ?_
    refine Mh_iand dL_law_32 ?_
    refine Mh_ite (C := ((E.2.2.2.2.2.2.2 (ix l3)) &&& (31 : Int32)) = 0) rfl (fun hs0 => ?_) (fun hs0 => ?_)
    · refine Mh_tsi (off := 131) (tgt := 164) dL_law_33 (by rw [hs0]; decide) (by rw [hs0]; decide) (by rw [hs0]; decide) (by decide) ?_
      refine Mh_aload_n 1 rfl dL_law_164 ?_
      refine Mh_aload_n 0 rfl dL_law_165 ?_
      refine Mh_iload_n 3 rfl dL_law_166 ?_
      refine Mh_iconst (v := 1) dL_law_167 (by decide) ?_
      refine Mh_iadd dL_law_168 ?_
      refine Mh_sal rfl dL_law_169 ?_
      refine Mh_aload_n 0 rfl dL_law_170 ?_
      refine Mh_iload_n 3 rfl dL_law_171 ?_
      refine Mh_iconst (v := 2) dL_law_172 (by decide) ?_
      refine Mh_iadd dL_law_173 ?_
      refine Mh_sal rfl dL_law_174 ?_
      refine Mh_aload_n 0 rfl dL_law_175 ?_
      refine Mh_iload_n 3 rfl dL_law_176 ?_
      refine Mh_iconst (v := 3) dL_law_177 (by decide) ?_
      refine Mh_iadd dL_law_178 ?_
      refine Mh_sal rfl dL_law_179 ?_
      refine Mh_aload_n 0 rfl dL_law_180 ?_
      refine Mh_iload_n 3 rfl dL_law_181 ?_
      refine Mh_iconst (v := 4) dL_law_182 (by decide) ?_
      refine Mh_iadd dL_law_183 ?_
      refine Mh_sal rfl dL_law_184 ?_
      refine Mh_aload_n 0 rfl dL_law_185 ?_
      refine Mh_iload_n 3 rfl dL_law_186 ?_
      refine Mh_iconst (v := 5) dL_law_187 (by decide) ?_
      refine Mh_iadd dL_law_188 ?_
      refine Mh_sal rfl dL_law_189 ?_
      refine Mh_aload_n 0 rfl dL_law_190 ?_
      refine Mh_iload_n 3 rfl dL_law_191 ?_
      refine Mh_bipush (v := 6) dL_law_192 (by decide) ?_
      refine Mh_iadd dL_law_194 ?_
      refine Mh_sal rfl dL_law_195 ?_
      refine Mh_cvI (N := mi_X11_stack) (q := l1) (ci := 10) (as := [.int (E.2.2.2.2.2.2.2 (ix (l3 + (1 : Int32)))), .int (E.2.2.2.2.2.2.2 (ix (l3 + (2 : Int32)))), .int (E.2.2.2.2.2.2.2 (ix (l3 + (3 : Int32)))), .int (E.2.2.2.2.2.2.2 (ix (l3 + (4 : Int32)))), .int (E.2.2.2.2.2.2.2 (ix (l3 + (5 : Int32)))), .int (E.2.2.2.2.2.2.2 (ix (l3 + (6 : Int32))))]) (st := []) (id) cg_yX11_stack (by decide) rfl rfl ml_RL_13 iv_yX11_stack pd_yX11_stack rfl (by decide) (Nat.le_of_ble_eq_true rfl) rfl dL_law_196 (T_X11_stack l E _ _ _ _ _ _ _ _ _) rfl ?_
      exact t_L_law_199 l E c0 s0 k18 hk18 _ _ _ _ _ _
    refine Mh_ite (C := ((E.2.2.2.2.2.2.2 (ix l3)) &&& (31 : Int32)) = 1) rfl (fun hs1 => ?_) (fun hs1 => ?_)
    · refine Mh_tsi (off := 206) (tgt := 239) dL_law_33 (by rw [hs1]; decide) (by rw [hs1]; decide) (by rw [hs1]; decide) (by decide) ?_
      refine Mh_aload_n 1 rfl dL_law_239 ?_
      refine Mh_aload_n 0 rfl dL_law_240 ?_
      refine Mh_iload_n 3 rfl dL_law_241 ?_
      refine Mh_iconst (v := 1) dL_law_242 (by decide) ?_
      refine Mh_iadd dL_law_243 ?_
      refine Mh_sal rfl dL_law_244 ?_
      refine Mh_aload_n 0 rfl dL_law_245 ?_
      refine Mh_iload_n 3 rfl dL_law_246 ?_
      refine Mh_iconst (v := 2) dL_law_247 (by decide) ?_
      refine Mh_iadd dL_law_248 ?_
      refine Mh_sal rfl dL_law_249 ?_
      refine Mh_aload_n 0 rfl dL_law_250 ?_
      refine Mh_iload_n 3 rfl dL_law_251 ?_
      refine Mh_iconst (v := 3) dL_law_252 (by decide) ?_
      refine Mh_iadd dL_law_253 ?_
      refine Mh_sal rfl dL_law_254 ?_
      refine Mh_if_eq (tgt := 262) dL_law_255 (by decide) rfl (fun _ => ?_) (fun _ => ?_)
      · refine Mh_iconst (v := 0) dL_law_262 (by decide) ?_
        exact t_L_law_263 l E c0 s0 k18 hk18 _ _ _ _ _ _ _ _ _
      · refine Mh_iconst (v := 1) dL_law_258 (by decide) ?_
        refine Mh_goto (tgt := 263) dL_law_259 (by decide) ?_
        exact t_L_law_263 l E c0 s0 k18 hk18 _ _ _ _ _ _ _ _ _
    refine Mh_ite (C := ((E.2.2.2.2.2.2.2 (ix l3)) &&& (31 : Int32)) = 2) rfl (fun hs2 => ?_) (fun hs2 => ?_)
    · refine Mh_tsi (off := 275) (tgt := 308) dL_law_33 (by rw [hs2]; decide) (by rw [hs2]; decide) (by rw [hs2]; decide) (by decide) ?_
      refine Mh_aload_n 1 rfl dL_law_308 ?_
      refine Mh_aload_n 0 rfl dL_law_309 ?_
      refine Mh_iload_n 3 rfl dL_law_310 ?_
      refine Mh_iconst (v := 1) dL_law_311 (by decide) ?_
      refine Mh_iadd dL_law_312 ?_
      refine Mh_sal rfl dL_law_313 ?_
      refine Mh_aload_n 0 rfl dL_law_314 ?_
      refine Mh_iload_n 3 rfl dL_law_315 ?_
      refine Mh_iconst (v := 2) dL_law_316 (by decide) ?_
      refine Mh_iadd dL_law_317 ?_
      refine Mh_sal rfl dL_law_318 ?_
      refine Mh_aload_n 0 rfl dL_law_319 ?_
      refine Mh_iload_n 3 rfl dL_law_320 ?_
      refine Mh_iconst (v := 3) dL_law_321 (by decide) ?_
      refine Mh_iadd dL_law_322 ?_
      refine Mh_sal rfl dL_law_323 ?_
      refine Mh_cvI (N := mi_X11_taste) (q := l1) (ci := 10) (as := [.int (E.2.2.2.2.2.2.2 (ix (l3 + (1 : Int32)))), .int (E.2.2.2.2.2.2.2 (ix (l3 + (2 : Int32)))), .int (E.2.2.2.2.2.2.2 (ix (l3 + (3 : Int32))))]) (st := []) (id) cg_yX11_taste (by decide) rfl rfl ml_RL_23 iv_yX11_taste pd_yX11_taste rfl (by decide) (Nat.le_of_ble_eq_true rfl) rfl dL_law_324 (T_X11_taste l E _ _ _ _ _ _) rfl ?_
      exact t_L_law_327 l E c0 s0 k18 hk18 _ _ _ _ _ _
    refine Mh_ite (C := ((E.2.2.2.2.2.2.2 (ix l3)) &&& (31 : Int32)) = 3) rfl (fun hs3 => ?_) (fun hs3 => ?_)
    · refine Mh_tsi (off := 318) (tgt := 351) dL_law_33 (by rw [hs3]; decide) (by rw [hs3]; decide) (by rw [hs3]; decide) (by decide) ?_
      refine Mh_aload_n 1 rfl dL_law_351 ?_
      refine Mh_aload_n 0 rfl dL_law_352 ?_
      refine Mh_iload_n 3 rfl dL_law_353 ?_
      refine Mh_iconst (v := 1) dL_law_354 (by decide) ?_
      refine Mh_iadd dL_law_355 ?_
      refine Mh_sal rfl dL_law_356 ?_
      refine Mh_aload_n 0 rfl dL_law_357 ?_
      refine Mh_iload_n 3 rfl dL_law_358 ?_
      refine Mh_iconst (v := 2) dL_law_359 (by decide) ?_
      refine Mh_iadd dL_law_360 ?_
      refine Mh_sal rfl dL_law_361 ?_
      refine Mh_cvI (N := mi_X11_salt) (q := l1) (ci := 10) (as := [.int (E.2.2.2.2.2.2.2 (ix (l3 + (1 : Int32)))), .int (E.2.2.2.2.2.2.2 (ix (l3 + (2 : Int32))))]) (st := []) (id) cg_yX11_salt (by decide) rfl rfl ml_RL_28 iv_yX11_salt pd_yX11_salt rfl (by decide) (Nat.le_of_ble_eq_true rfl) rfl dL_law_362 (T_X11_salt l E _ _ _ _ _) rfl ?_
      exact t_L_law_365 l E c0 s0 k18 hk18 _ _ _ _ _ _
    refine Mh_ite (C := ((E.2.2.2.2.2.2.2 (ix l3)) &&& (31 : Int32)) = 4) rfl (fun hs4 => ?_) (fun hs4 => ?_)
    · refine Mh_tsi (off := 351) (tgt := 384) dL_law_33 (by rw [hs4]; decide) (by rw [hs4]; decide) (by rw [hs4]; decide) (by decide) ?_
      refine Mh_aload_n 1 rfl dL_law_384 ?_
      refine Mh_aload_n 0 rfl dL_law_385 ?_
      refine Mh_iload_n 3 rfl dL_law_386 ?_
      refine Mh_iconst (v := 1) dL_law_387 (by decide) ?_
      refine Mh_iadd dL_law_388 ?_
      refine Mh_sal rfl dL_law_389 ?_
      refine Mh_aload_n 0 rfl dL_law_390 ?_
      refine Mh_iload_n 3 rfl dL_law_391 ?_
      refine Mh_iconst (v := 2) dL_law_392 (by decide) ?_
      refine Mh_iadd dL_law_393 ?_
      refine Mh_sal rfl dL_law_394 ?_
      refine Mh_aload_n 0 rfl dL_law_395 ?_
      refine Mh_iload_n 3 rfl dL_law_396 ?_
      refine Mh_iconst (v := 3) dL_law_397 (by decide) ?_
      refine Mh_iadd dL_law_398 ?_
      refine Mh_sal rfl dL_law_399 ?_
      refine Mh_aload_n 0 rfl dL_law_400 ?_
      refine Mh_iload_n 3 rfl dL_law_401 ?_
      refine Mh_iconst (v := 4) dL_law_402 (by decide) ?_
      refine Mh_iadd dL_law_403 ?_
      refine Mh_sal rfl dL_law_404 ?_
      refine Mh_aload_n 0 rfl dL_law_405 ?_
      refine Mh_iload_n 3 rfl dL_law_406 ?_
      refine Mh_iconst (v := 5) dL_law_407 (by decide) ?_
      refine Mh_iadd dL_law_408 ?_
      refine Mh_sal rfl dL_law_409 ?_
      refine Mh_cvI (N := mi_X11_feed) (q := l1) (ci := 10) (as := [.int (E.2.2.2.2.2.2.2 (ix (l3 + (1 : Int32)))), .int (E.2.2.2.2.2.2.2 (ix (l3 + (2 : Int32)))), .int (E.2.2.2.2.2.2.2 (ix (l3 + (3 : Int32)))), .int (E.2.2.2.2.2.2.2 (ix (l3 + (4 : Int32)))), .int (E.2.2.2.2.2.2.2 (ix (l3 + (5 : Int32))))]) (st := []) (id) cg_yX11_feed (by decide) rfl rfl ml_RL_33 iv_yX11_feed pd_yX11_feed rfl (by decide) (Nat.le_of_ble_eq_true rfl) rfl dL_law_410 (T_X11_feed l E _ _ _ _ _ _ _ _) rfl ?_
      exact t_L_law_413 l E c0 s0 k18 hk18 _ _ _ _ _ _
    refine Mh_ite (C := ((E.2.2.2.2.2.2.2 (ix l3)) &&& (31 : Int32)) = 5) rfl (fun hs5 => ?_) (fun hs5 => ?_)
    · refine Mh_tsi (off := 414) (tgt := 447) dL_law_33 (by rw [hs5]; decide) (by rw [hs5]; decide) (by rw [hs5]; decide) (by decide) ?_
      refine Mh_aload_n 1 rfl dL_law_447 ?_
      refine Mh_aload_n 0 rfl dL_law_448 ?_
      refine Mh_iload_n 3 rfl dL_law_449 ?_
      refine Mh_iconst (v := 1) dL_law_450 (by decide) ?_
      refine Mh_iadd dL_law_451 ?_
      refine Mh_sal rfl dL_law_452 ?_
      refine Mh_cvI (N := mi_X11_law) (q := l1) (ci := 10) (as := [.int (E.2.2.2.2.2.2.2 (ix (l3 + (1 : Int32))))]) (st := []) (id) cg_yX11_law (by decide) rfl rfl ml_RL_38 iv_yX11_law pd_yX11_law rfl (by decide) (Nat.le_of_ble_eq_true rfl) rfl dL_law_453 (T_X11_law l E _ _ _ _) rfl ?_
      exact t_L_law_456 l E c0 s0 k18 hk18 _ _ _ _ _ _
    refine Mh_ite (C := ((E.2.2.2.2.2.2.2 (ix l3)) &&& (31 : Int32)) = 6) rfl (fun hs6 => ?_) (fun hs6 => ?_)
    · refine Mh_tsi (off := 437) (tgt := 470) dL_law_33 (by rw [hs6]; decide) (by rw [hs6]; decide) (by rw [hs6]; decide) (by decide) ?_
      refine Mh_aload_n 1 rfl dL_law_470 ?_
      refine Mh_aload_n 0 rfl dL_law_471 ?_
      refine Mh_iload_n 3 rfl dL_law_472 ?_
      refine Mh_iconst (v := 1) dL_law_473 (by decide) ?_
      refine Mh_iadd dL_law_474 ?_
      refine Mh_sal rfl dL_law_475 ?_
      refine Mh_aload_n 0 rfl dL_law_476 ?_
      refine Mh_iload_n 3 rfl dL_law_477 ?_
      refine Mh_iconst (v := 2) dL_law_478 (by decide) ?_
      refine Mh_iadd dL_law_479 ?_
      refine Mh_sal rfl dL_law_480 ?_
      refine Mh_cvI (N := mi_X11_would) (q := l1) (ci := 10) (as := [.int (E.2.2.2.2.2.2.2 (ix (l3 + (1 : Int32)))), .int (E.2.2.2.2.2.2.2 (ix (l3 + (2 : Int32))))]) (st := []) (id) cg_yX11_would (by decide) rfl rfl ml_RL_43 iv_yX11_would pd_yX11_would rfl (by decide) (Nat.le_of_ble_eq_true rfl) rfl dL_law_481 (T_X11_would l E _ _ _ _ _) rfl ?_
      exact t_L_law_484 l E c0 s0 k18 hk18 _ _ _ _ _ _
    refine Mh_ite (C := ((E.2.2.2.2.2.2.2 (ix l3)) &&& (31 : Int32)) = 7) rfl (fun hs7 => ?_) (fun hs7 => ?_)
    · refine Mh_tsi (off := 470) (tgt := 503) dL_law_33 (by rw [hs7]; decide) (by rw [hs7]; decide) (by rw [hs7]; decide) (by decide) ?_
      refine Mh_aload_n 1 rfl dL_law_503 ?_
      refine Mh_aload_n 0 rfl dL_law_504 ?_
      refine Mh_iload_n 3 rfl dL_law_505 ?_
      refine Mh_iconst (v := 1) dL_law_506 (by decide) ?_
      refine Mh_iadd dL_law_507 ?_
      refine Mh_sal rfl dL_law_508 ?_
      refine Mh_cvI (N := mi_X11_chooses) (q := l1) (ci := 10) (as := [.int (E.2.2.2.2.2.2.2 (ix (l3 + (1 : Int32))))]) (st := []) (id) cg_yX11_chooses (by decide) rfl rfl ml_RL_48 iv_yX11_chooses pd_yX11_chooses rfl (by decide) (Nat.le_of_ble_eq_true rfl) rfl dL_law_509 (T_X11_chooses l E _ _ _ _) rfl ?_
      exact t_L_law_512 l E c0 s0 k18 hk18 _ _ _ _ _ _
    refine Mh_ite (C := ((E.2.2.2.2.2.2.2 (ix l3)) &&& (31 : Int32)) = 8) rfl (fun hs8 => ?_) (fun hs8 => ?_)
    · refine Mh_tsi (off := 493) (tgt := 526) dL_law_33 (by rw [hs8]; decide) (by rw [hs8]; decide) (by rw [hs8]; decide) (by decide) ?_
      refine Mh_aload_n 1 rfl dL_law_526 ?_
      refine Mh_aload_n 0 rfl dL_law_527 ?_
      refine Mh_iload_n 3 rfl dL_law_528 ?_
      refine Mh_iconst (v := 1) dL_law_529 (by decide) ?_
      refine Mh_iadd dL_law_530 ?_
      refine Mh_sal rfl dL_law_531 ?_
      refine Mh_cvI (N := mi_X11_days) (q := l1) (ci := 10) (as := [.int (E.2.2.2.2.2.2.2 (ix (l3 + (1 : Int32))))]) (st := []) (id) cg_yX11_days (by decide) rfl rfl ml_RL_52 iv_yX11_days pd_yX11_days rfl (by decide) (Nat.le_of_ble_eq_true rfl) rfl dL_law_532 (T_X11_days l E _ _ _ _) rfl ?_
      exact t_L_law_535 l E c0 s0 k18 hk18 _ _ _ _ _ _
    refine Mh_ite (C := ((E.2.2.2.2.2.2.2 (ix l3)) &&& (31 : Int32)) = 9) rfl (fun hs9 => ?_) (fun hs9 => ?_)
    · refine Mh_tsi (off := 516) (tgt := 549) dL_law_33 (by rw [hs9]; decide) (by rw [hs9]; decide) (by rw [hs9]; decide) (by decide) ?_
      refine Mh_aload_n 1 rfl dL_law_549 ?_
      refine Mh_aload_n 0 rfl dL_law_550 ?_
      refine Mh_iload_n 3 rfl dL_law_551 ?_
      refine Mh_iconst (v := 1) dL_law_552 (by decide) ?_
      refine Mh_iadd dL_law_553 ?_
      refine Mh_sal rfl dL_law_554 ?_
      refine Mh_aload_n 0 rfl dL_law_555 ?_
      refine Mh_iload_n 3 rfl dL_law_556 ?_
      refine Mh_iconst (v := 2) dL_law_557 (by decide) ?_
      refine Mh_iadd dL_law_558 ?_
      refine Mh_sal rfl dL_law_559 ?_
      refine Mh_cvI (N := mi_X11_run) (q := l1) (ci := 10) (as := [.int (E.2.2.2.2.2.2.2 (ix (l3 + (1 : Int32)))), .int (E.2.2.2.2.2.2.2 (ix (l3 + (2 : Int32))))]) (st := []) (id) cg_yX11_run (by decide) rfl rfl ml_RL_56 iv_yX11_run pd_yX11_run rfl (by decide) (Nat.le_of_ble_eq_true rfl) rfl dL_law_560 (T_X11_run l E _ _ _ _ _) rfl ?_
      exact t_L_law_563 l E c0 s0 k18 hk18 _ _ _ _ _ _
    refine Mh_ite (C := ((E.2.2.2.2.2.2.2 (ix l3)) &&& (31 : Int32)) = 10) rfl (fun hs10 => ?_) (fun hs10 => ?_)
    · refine Mh_tsi (off := 549) (tgt := 582) dL_law_33 (by rw [hs10]; decide) (by rw [hs10]; decide) (by rw [hs10]; decide) (by decide) ?_
      refine Mh_aload_n 1 rfl dL_law_582 ?_
      refine Mh_aload_n 0 rfl dL_law_583 ?_
      refine Mh_iload_n 3 rfl dL_law_584 ?_
      refine Mh_iconst (v := 1) dL_law_585 (by decide) ?_
      refine Mh_iadd dL_law_586 ?_
      refine Mh_sal rfl dL_law_587 ?_
      refine Mh_aload_n 0 rfl dL_law_588 ?_
      refine Mh_iload_n 3 rfl dL_law_589 ?_
      refine Mh_iconst (v := 2) dL_law_590 (by decide) ?_
      refine Mh_iadd dL_law_591 ?_
      refine Mh_sal rfl dL_law_592 ?_
      refine Mh_cvI (N := mi_X11_stackIs) (q := l1) (ci := 10) (as := [.int (E.2.2.2.2.2.2.2 (ix (l3 + (1 : Int32)))), .int (E.2.2.2.2.2.2.2 (ix (l3 + (2 : Int32))))]) (st := []) (id) cg_yX11_stackIs (by decide) rfl rfl ml_RL_60 iv_yX11_stackIs pd_yX11_stackIs rfl (by decide) (Nat.le_of_ble_eq_true rfl) rfl dL_law_593 (T_X11_stackIs l E _ _ _ _ _) rfl ?_
      exact t_L_law_596 l E c0 s0 k18 hk18 _ _ _ _ _ _
    refine Mh_ite (C := ((E.2.2.2.2.2.2.2 (ix l3)) &&& (31 : Int32)) = 11) rfl (fun hs11 => ?_) (fun hs11 => ?_)
    · refine Mh_tsi (off := 582) (tgt := 615) dL_law_33 (by rw [hs11]; decide) (by rw [hs11]; decide) (by rw [hs11]; decide) (by decide) ?_
      refine Mh_aload_n 1 rfl dL_law_615 ?_
      refine Mh_aload_n 0 rfl dL_law_616 ?_
      refine Mh_iload_n 3 rfl dL_law_617 ?_
      refine Mh_iconst (v := 1) dL_law_618 (by decide) ?_
      refine Mh_iadd dL_law_619 ?_
      refine Mh_sal rfl dL_law_620 ?_
      refine Mh_aload_n 0 rfl dL_law_621 ?_
      refine Mh_iload_n 3 rfl dL_law_622 ?_
      refine Mh_iconst (v := 2) dL_law_623 (by decide) ?_
      refine Mh_iadd dL_law_624 ?_
      refine Mh_sal rfl dL_law_625 ?_
      refine Mh_cvI (N := mi_X11_cowIs) (q := l1) (ci := 10) (as := [.int (E.2.2.2.2.2.2.2 (ix (l3 + (1 : Int32)))), .int (E.2.2.2.2.2.2.2 (ix (l3 + (2 : Int32))))]) (st := []) (id) cg_yX11_cowIs (by decide) rfl rfl ml_RL_64 iv_yX11_cowIs pd_yX11_cowIs rfl (by decide) (Nat.le_of_ble_eq_true rfl) rfl dL_law_626 (T_X11_cowIs l E _ _ _ _ _) rfl ?_
      exact t_L_law_629 l E c0 s0 k18 hk18 _ _ _ _ _ _
    refine Mh_ite (C := ((E.2.2.2.2.2.2.2 (ix l3)) &&& (31 : Int32)) = 12) rfl (fun hs12 => ?_) (fun hs12 => ?_)
    · refine Mh_tsi (off := 615) (tgt := 648) dL_law_33 (by rw [hs12]; decide) (by rw [hs12]; decide) (by rw [hs12]; decide) (by decide) ?_
      refine Mh_aload_n 1 rfl dL_law_648 ?_
      refine Mh_aload_n 0 rfl dL_law_649 ?_
      refine Mh_iload_n 3 rfl dL_law_650 ?_
      refine Mh_iconst (v := 1) dL_law_651 (by decide) ?_
      refine Mh_iadd dL_law_652 ?_
      refine Mh_sal rfl dL_law_653 ?_
      refine Mh_aload_n 0 rfl dL_law_654 ?_
      refine Mh_iload_n 3 rfl dL_law_655 ?_
      refine Mh_iconst (v := 2) dL_law_656 (by decide) ?_
      refine Mh_iadd dL_law_657 ?_
      refine Mh_sal rfl dL_law_658 ?_
      refine Mh_cvI (N := mi_X11_eaten) (q := l1) (ci := 10) (as := [.int (E.2.2.2.2.2.2.2 (ix (l3 + (1 : Int32)))), .int (E.2.2.2.2.2.2.2 (ix (l3 + (2 : Int32))))]) (st := []) (id) cg_yX11_eaten (by decide) rfl rfl ml_RL_68 iv_yX11_eaten pd_yX11_eaten rfl (by decide) (Nat.le_of_ble_eq_true rfl) rfl dL_law_659 (T_X11_eaten l E _ _ _ _ _) rfl ?_
      exact t_L_law_662 l E c0 s0 k18 hk18 _ _ _ _ _ _
    refine Mh_ite (C := ((E.2.2.2.2.2.2.2 (ix l3)) &&& (31 : Int32)) = 13) rfl (fun hs13 => ?_) (fun hs13 => ?_)
    · refine Mh_tsi (off := 648) (tgt := 681) dL_law_33 (by rw [hs13]; decide) (by rw [hs13]; decide) (by rw [hs13]; decide) (by decide) ?_
      refine Mh_aload_n 1 rfl dL_law_681 ?_
      refine Mh_aload_n 0 rfl dL_law_682 ?_
      refine Mh_iload_n 3 rfl dL_law_683 ?_
      refine Mh_iconst (v := 1) dL_law_684 (by decide) ?_
      refine Mh_iadd dL_law_685 ?_
      refine Mh_sal rfl dL_law_686 ?_
      refine Mh_cvI (N := mi_X11_votes) (q := l1) (ci := 10) (as := [.int (E.2.2.2.2.2.2.2 (ix (l3 + (1 : Int32))))]) (st := []) (id) cg_yX11_votes (by decide) rfl rfl ml_RL_72 iv_yX11_votes pd_yX11_votes rfl (by decide) (Nat.le_of_ble_eq_true rfl) rfl dL_law_687 (T_X11_votes l E _ _ _ _) rfl ?_
      exact t_L_law_690 l E c0 s0 k18 hk18 _ _ _ _ _ _
    refine Mh_ite (C := ((E.2.2.2.2.2.2.2 (ix l3)) &&& (31 : Int32)) = 14) rfl (fun hs14 => ?_) (fun hs14 => ?_)
    · refine Mh_tsi (off := 671) (tgt := 704) dL_law_33 (by rw [hs14]; decide) (by rw [hs14]; decide) (by rw [hs14]; decide) (by decide) ?_
      refine Mh_aload_n 1 rfl dL_law_704 ?_
      refine Mh_aload_n 0 rfl dL_law_705 ?_
      refine Mh_iload_n 3 rfl dL_law_706 ?_
      refine Mh_iconst (v := 1) dL_law_707 (by decide) ?_
      refine Mh_iadd dL_law_708 ?_
      refine Mh_sal rfl dL_law_709 ?_
      refine Mh_aload_n 0 rfl dL_law_710 ?_
      refine Mh_iload_n 3 rfl dL_law_711 ?_
      refine Mh_iconst (v := 2) dL_law_712 (by decide) ?_
      refine Mh_iadd dL_law_713 ?_
      refine Mh_sal rfl dL_law_714 ?_
      refine Mh_aload_n 0 rfl dL_law_715 ?_
      refine Mh_iload_n 3 rfl dL_law_716 ?_
      refine Mh_iconst (v := 3) dL_law_717 (by decide) ?_
      refine Mh_iadd dL_law_718 ?_
      refine Mh_sal rfl dL_law_719 ?_
      refine Mh_cvI (N := mi_X11_campaign) (q := l1) (ci := 10) (as := [.int (E.2.2.2.2.2.2.2 (ix (l3 + (1 : Int32)))), .int (E.2.2.2.2.2.2.2 (ix (l3 + (2 : Int32)))), .int (E.2.2.2.2.2.2.2 (ix (l3 + (3 : Int32))))]) (st := []) (id) cg_yX11_campaign (by decide) rfl rfl ml_RL_76 iv_yX11_campaign pd_yX11_campaign rfl (by decide) (Nat.le_of_ble_eq_true rfl) rfl dL_law_720 (T_X11_campaign l E _ _ _ _ _ _) rfl ?_
      exact t_L_law_723 l E c0 s0 k18 hk18 _ _ _ _ _ _
    refine Mh_ite (C := ((E.2.2.2.2.2.2.2 (ix l3)) &&& (31 : Int32)) = 15) rfl (fun hs15 => ?_) (fun hs15 => ?_)
    · refine Mh_tsi (off := 714) (tgt := 747) dL_law_33 (by rw [hs15]; decide) (by rw [hs15]; decide) (by rw [hs15]; decide) (by decide) ?_
      refine Mh_aload_n 1 rfl dL_law_747 ?_
      refine Mh_aload_n 0 rfl dL_law_748 ?_
      refine Mh_iload_n 3 rfl dL_law_749 ?_
      refine Mh_iconst (v := 1) dL_law_750 (by decide) ?_
      refine Mh_iadd dL_law_751 ?_
      refine Mh_sal rfl dL_law_752 ?_
      refine Mh_cvI (N := mi_X11_power) (q := l1) (ci := 10) (as := [.int (E.2.2.2.2.2.2.2 (ix (l3 + (1 : Int32))))]) (st := []) (id) cg_yX11_power (by decide) rfl rfl ml_RL_81 iv_yX11_power pd_yX11_power rfl (by decide) (Nat.le_of_ble_eq_true rfl) rfl dL_law_753 (T_X11_power l E _ _ _ _) rfl ?_
      exact t_L_law_756 l E c0 s0 k18 hk18 _ _ _ _ _ _
    refine Mh_ite (C := ((E.2.2.2.2.2.2.2 (ix l3)) &&& (31 : Int32)) = 16) rfl (fun hs16 => ?_) (fun hs16 => ?_)
    · refine Mh_tsi (off := 737) (tgt := 770) dL_law_33 (by rw [hs16]; decide) (by rw [hs16]; decide) (by rw [hs16]; decide) (by decide) ?_
      refine Mh_aload_n 1 rfl dL_law_770 ?_
      refine Mh_aload_n 0 rfl dL_law_771 ?_
      refine Mh_iload_n 3 rfl dL_law_772 ?_
      refine Mh_iconst (v := 1) dL_law_773 (by decide) ?_
      refine Mh_iadd dL_law_774 ?_
      refine Mh_sal rfl dL_law_775 ?_
      refine Mh_aload_n 0 rfl dL_law_776 ?_
      refine Mh_iload_n 3 rfl dL_law_777 ?_
      refine Mh_iconst (v := 2) dL_law_778 (by decide) ?_
      refine Mh_iadd dL_law_779 ?_
      refine Mh_sal rfl dL_law_780 ?_
      refine Mh_cvJ (N := mi_X11_share) (q := l1) (ci := 10) (as := [.int (E.2.2.2.2.2.2.2 (ix (l3 + (1 : Int32)))), .int (E.2.2.2.2.2.2.2 (ix (l3 + (2 : Int32))))]) (st := []) (id) cg_yX11_share (by decide) rfl rfl ml_RL_85 iv_yX11_share pd_yX11_share rfl (by decide) (Nat.le_of_ble_eq_true rfl) rfl dL_law_781 (T_X11_share l E _ _ _ _ _) rfl ?_
      exact t_L_law_784 l E c0 s0 k18 hk18 _ _ _ _ _ _
    refine Mh_ite (C := ((E.2.2.2.2.2.2.2 (ix l3)) &&& (31 : Int32)) = 17) rfl (fun hs17 => ?_) (fun hs17 => ?_)
    · refine Mh_tsi (off := 771) (tgt := 804) dL_law_33 (by rw [hs17]; decide) (by rw [hs17]; decide) (by rw [hs17]; decide) (by decide) ?_
      refine Mh_aload_n 1 rfl dL_law_804 ?_
      refine Mh_aload_n 0 rfl dL_law_805 ?_
      refine Mh_iload_n 3 rfl dL_law_806 ?_
      refine Mh_iconst (v := 1) dL_law_807 (by decide) ?_
      refine Mh_iadd dL_law_808 ?_
      refine Mh_sal rfl dL_law_809 ?_
      refine Mh_cvI (N := mi_X11_seat) (q := l1) (ci := 10) (as := [.int (E.2.2.2.2.2.2.2 (ix (l3 + (1 : Int32))))]) (st := []) (id) cg_yX11_seat (by decide) rfl rfl ml_RL_90 iv_yX11_seat pd_yX11_seat rfl (by decide) (Nat.le_of_ble_eq_true rfl) rfl dL_law_810 (T_X11_seat l E _ _ _ _) rfl ?_
      exact t_L_law_813 l E c0 s0 k18 hk18 _ _ _ _ _ _
    refine Mh_ite (C := ((E.2.2.2.2.2.2.2 (ix l3)) &&& (31 : Int32)) = 18) rfl (fun hs18 => ?_) (fun hs18 => ?_)
    · refine Mh_tsi (off := 794) (tgt := 827) dL_law_33 (by rw [hs18]; decide) (by rw [hs18]; decide) (by rw [hs18]; decide) (by decide) ?_
      refine Mh_aload_n 1 rfl dL_law_827 ?_
      refine Mh_aload_n 0 rfl dL_law_828 ?_
      refine Mh_iload_n 3 rfl dL_law_829 ?_
      refine Mh_iconst (v := 1) dL_law_830 (by decide) ?_
      refine Mh_iadd dL_law_831 ?_
      refine Mh_sal rfl dL_law_832 ?_
      refine Mh_aload_n 0 rfl dL_law_833 ?_
      refine Mh_iload_n 3 rfl dL_law_834 ?_
      refine Mh_iconst (v := 2) dL_law_835 (by decide) ?_
      refine Mh_iadd dL_law_836 ?_
      refine Mh_sal rfl dL_law_837 ?_
      refine Mh_cvI (N := mi_X11_cut) (q := l1) (ci := 10) (as := [.int (E.2.2.2.2.2.2.2 (ix (l3 + (1 : Int32)))), .int (E.2.2.2.2.2.2.2 (ix (l3 + (2 : Int32))))]) (st := []) (id) cg_yX11_cut (by decide) rfl rfl ml_RL_94 iv_yX11_cut pd_yX11_cut rfl (by decide) (Nat.le_of_ble_eq_true rfl) rfl dL_law_838 (T_X11_cut l E _ _ _ _ _) rfl ?_
      exact t_L_law_841 l E c0 s0 k18 hk18 _ _ _ _ _ _
    refine Mh_ite (C := ((E.2.2.2.2.2.2.2 (ix l3)) &&& (31 : Int32)) = 19) rfl (fun hs19 => ?_) (fun hs19 => ?_)
    · refine Mh_tsi (off := 827) (tgt := 860) dL_law_33 (by rw [hs19]; decide) (by rw [hs19]; decide) (by rw [hs19]; decide) (by decide) ?_
      refine Mh_aload_n 1 rfl dL_law_860 ?_
      refine Mh_aload_n 0 rfl dL_law_861 ?_
      refine Mh_iload_n 3 rfl dL_law_862 ?_
      refine Mh_iconst (v := 1) dL_law_863 (by decide) ?_
      refine Mh_iadd dL_law_864 ?_
      refine Mh_sal rfl dL_law_865 ?_
      refine Mh_cvI (N := mi_X11_foreseen) (q := l1) (ci := 10) (as := [.int (E.2.2.2.2.2.2.2 (ix (l3 + (1 : Int32))))]) (st := []) (id) cg_yX11_foreseen (by decide) rfl rfl ml_RL_98 iv_yX11_foreseen pd_yX11_foreseen rfl (by decide) (Nat.le_of_ble_eq_true rfl) rfl dL_law_866 (T_X11_foreseen l E _ _ _ _) rfl ?_
      exact t_L_law_869 l E c0 s0 k18 hk18 _ _ _ _ _ _
    refine Mh_ite (C := ((E.2.2.2.2.2.2.2 (ix l3)) &&& (31 : Int32)) = 20) rfl (fun hs20 => ?_) (fun hs20 => ?_)
    · refine Mh_tsi (off := 850) (tgt := 883) dL_law_33 (by rw [hs20]; decide) (by rw [hs20]; decide) (by rw [hs20]; decide) (by decide) ?_
      refine Mh_aload_n 1 rfl dL_law_883 ?_
      refine Mh_aload_n 0 rfl dL_law_884 ?_
      refine Mh_iload_n 3 rfl dL_law_885 ?_
      refine Mh_iconst (v := 1) dL_law_886 (by decide) ?_
      refine Mh_iadd dL_law_887 ?_
      refine Mh_sal rfl dL_law_888 ?_
      refine Mh_aload_n 0 rfl dL_law_889 ?_
      refine Mh_iload_n 3 rfl dL_law_890 ?_
      refine Mh_iconst (v := 2) dL_law_891 (by decide) ?_
      refine Mh_iadd dL_law_892 ?_
      refine Mh_sal rfl dL_law_893 ?_
      refine Mh_aload_n 0 rfl dL_law_894 ?_
      refine Mh_iload_n 3 rfl dL_law_895 ?_
      refine Mh_iconst (v := 3) dL_law_896 (by decide) ?_
      refine Mh_iadd dL_law_897 ?_
      refine Mh_sal rfl dL_law_898 ?_
      refine Mh_aload_n 0 rfl dL_law_899 ?_
      refine Mh_iload_n 3 rfl dL_law_900 ?_
      refine Mh_iconst (v := 4) dL_law_901 (by decide) ?_
      refine Mh_iadd dL_law_902 ?_
      refine Mh_sal rfl dL_law_903 ?_
      refine Mh_cvJ (N := mi_X11_burns) (q := l1) (ci := 10) (as := [.int (E.2.2.2.2.2.2.2 (ix (l3 + (1 : Int32)))), .int (E.2.2.2.2.2.2.2 (ix (l3 + (2 : Int32)))), .int (E.2.2.2.2.2.2.2 (ix (l3 + (3 : Int32)))), .int (E.2.2.2.2.2.2.2 (ix (l3 + (4 : Int32))))]) (st := []) (id) cg_yX11_burns (by decide) rfl rfl ml_RL_102 iv_yX11_burns pd_yX11_burns rfl (by decide) (Nat.le_of_ble_eq_true rfl) rfl dL_law_904 (T_X11_burns l E _ _ _ _ _ _ _) rfl ?_
      exact t_L_law_907 l E c0 s0 k18 hk18 _ _ _ _ _ _
    refine Mh_ite (C := ((E.2.2.2.2.2.2.2 (ix l3)) &&& (31 : Int32)) = 21) rfl (fun hs21 => ?_) (fun hs21 => ?_)
    · refine Mh_tsi (off := 904) (tgt := 937) dL_law_33 (by rw [hs21]; decide) (by rw [hs21]; decide) (by rw [hs21]; decide) (by decide) ?_
      refine Mh_aload_n 1 rfl dL_law_937 ?_
      refine Mh_aload_n 0 rfl dL_law_938 ?_
      refine Mh_iload_n 3 rfl dL_law_939 ?_
      refine Mh_iconst (v := 1) dL_law_940 (by decide) ?_
      refine Mh_iadd dL_law_941 ?_
      refine Mh_sal rfl dL_law_942 ?_
      refine Mh_aload_n 0 rfl dL_law_943 ?_
      refine Mh_iload_n 3 rfl dL_law_944 ?_
      refine Mh_iconst (v := 2) dL_law_945 (by decide) ?_
      refine Mh_iadd dL_law_946 ?_
      refine Mh_sal rfl dL_law_947 ?_
      refine Mh_cvI (N := mi_X11_salted) (q := l1) (ci := 10) (as := [.int (E.2.2.2.2.2.2.2 (ix (l3 + (1 : Int32)))), .int (E.2.2.2.2.2.2.2 (ix (l3 + (2 : Int32))))]) (st := []) (id) cg_yX11_salted (by decide) rfl rfl ml_RL_107 iv_yX11_salted pd_yX11_salted rfl (by decide) (Nat.le_of_ble_eq_true rfl) rfl dL_law_948 (T_X11_salted l E _ _ _ _ _) rfl ?_
      exact t_L_law_951 l E c0 s0 k18 hk18 _ _ _ _ _ _
    refine Mh_ite (C := ((E.2.2.2.2.2.2.2 (ix l3)) &&& (31 : Int32)) = 22) rfl (fun hs22 => ?_) (fun hs22 => ?_)
    · refine Mh_tsi (off := 937) (tgt := 970) dL_law_33 (by rw [hs22]; decide) (by rw [hs22]; decide) (by rw [hs22]; decide) (by decide) ?_
      refine Mh_aload_n 1 rfl dL_law_970 ?_
      refine Mh_aload_n 0 rfl dL_law_971 ?_
      refine Mh_iload_n 3 rfl dL_law_972 ?_
      refine Mh_iconst (v := 1) dL_law_973 (by decide) ?_
      refine Mh_iadd dL_law_974 ?_
      refine Mh_sal rfl dL_law_975 ?_
      refine Mh_cvI (N := mi_X11_storm) (q := l1) (ci := 10) (as := [.int (E.2.2.2.2.2.2.2 (ix (l3 + (1 : Int32))))]) (st := []) (id) cg_yX11_storm (by decide) rfl rfl ml_RL_111 iv_yX11_storm pd_yX11_storm rfl (by decide) (Nat.le_of_ble_eq_true rfl) rfl dL_law_976 (T_X11_storm l E _ _ _ _) rfl ?_
      exact t_L_law_979 l E c0 s0 k18 hk18 _ _ _ _ _ _
    refine Mh_ite (C := ((E.2.2.2.2.2.2.2 (ix l3)) &&& (31 : Int32)) = 23) rfl (fun hs23 => ?_) (fun hs23 => ?_)
    · refine Mh_tsi (off := 960) (tgt := 993) dL_law_33 (by rw [hs23]; decide) (by rw [hs23]; decide) (by rw [hs23]; decide) (by decide) ?_
      refine Mh_aload_n 1 rfl dL_law_993 ?_
      refine Mh_aload_n 0 rfl dL_law_994 ?_
      refine Mh_iload_n 3 rfl dL_law_995 ?_
      refine Mh_iconst (v := 1) dL_law_996 (by decide) ?_
      refine Mh_iadd dL_law_997 ?_
      refine Mh_sal rfl dL_law_998 ?_
      refine Mh_cvI (N := mi_X11_seed) (q := l1) (ci := 10) (as := [.int (E.2.2.2.2.2.2.2 (ix (l3 + (1 : Int32))))]) (st := []) (id) cg_yX11_seed (by decide) rfl rfl ml_RL_115 iv_yX11_seed pd_yX11_seed rfl (by decide) (Nat.le_of_ble_eq_true rfl) rfl dL_law_999 (T_X11_seed l E _ _ _ _) rfl ?_
      exact t_L_law_1002 l E c0 s0 k18 hk18 _ _ _ _ _ _
    refine Mh_ite (C := ((E.2.2.2.2.2.2.2 (ix l3)) &&& (31 : Int32)) = 24) rfl (fun hs24 => ?_) (fun hs24 => ?_)
    · refine Mh_tsi (off := 983) (tgt := 1016) dL_law_33 (by rw [hs24]; decide) (by rw [hs24]; decide) (by rw [hs24]; decide) (by decide) ?_
      refine Mh_aload_n 1 rfl dL_law_1016 ?_
      refine Mh_aload_n 0 rfl dL_law_1017 ?_
      refine Mh_iload_n 3 rfl dL_law_1018 ?_
      refine Mh_iconst (v := 1) dL_law_1019 (by decide) ?_
      refine Mh_iadd dL_law_1020 ?_
      refine Mh_sal rfl dL_law_1021 ?_
      refine Mh_cvI (N := mi_X11_draw) (q := l1) (ci := 10) (as := [.int (E.2.2.2.2.2.2.2 (ix (l3 + (1 : Int32))))]) (st := []) (id) cg_yX11_draw (by decide) rfl rfl ml_RL_120 iv_yX11_draw pd_yX11_draw rfl (by decide) (Nat.le_of_ble_eq_true rfl) rfl dL_law_1022 (T_X11_draw l E _ _ _ _) rfl ?_
      exact t_L_law_1025 l E c0 s0 k18 hk18 _ _ _ _ _ _
    refine Mh_ite (C := ((E.2.2.2.2.2.2.2 (ix l3)) &&& (31 : Int32)) = 25) rfl (fun hs25 => ?_) (fun hs25 => ?_)
    · refine Mh_tsi (off := 1006) (tgt := 1039) dL_law_33 (by rw [hs25]; decide) (by rw [hs25]; decide) (by rw [hs25]; decide) (by decide) ?_
      refine Mh_aload_n 1 rfl dL_law_1039 ?_
      refine Mh_cvI (N := mi_X11_keep) (q := l1) (ci := 10) (as := []) (st := []) (id) cg_yX11_keep (by decide) rfl rfl ml_RL_124 iv_yX11_keep pd_yX11_keep rfl (by decide) (Nat.le_of_ble_eq_true rfl) rfl dL_law_1040 (T_X11_keep l E _ _ _) rfl ?_
      exact t_L_law_1043 l E c0 s0 k18 hk18 _ _ _ _ _ _
    refine Mh_ite (C := ((E.2.2.2.2.2.2.2 (ix l3)) &&& (31 : Int32)) = 26) rfl (fun hs26 => ?_) (fun hs26 => ?_)
    · refine Mh_tsi (off := 1019) (tgt := 1052) dL_law_33 (by rw [hs26]; decide) (by rw [hs26]; decide) (by rw [hs26]; decide) (by decide) ?_
      refine Mh_aload_n 1 rfl dL_law_1052 ?_
      refine Mh_cvI (N := mi_X11_undo) (q := l1) (ci := 10) (as := []) (st := []) (id) cg_yX11_undo (by decide) rfl rfl ml_RL_129 iv_yX11_undo pd_yX11_undo rfl (by decide) (Nat.le_of_ble_eq_true rfl) rfl dL_law_1053 (T_X11_undo l E _ _ _) rfl ?_
      exact t_L_law_1056 l E c0 s0 k18 hk18 _ _ _ _ _ _
    refine Mh_ite (C := ((E.2.2.2.2.2.2.2 (ix l3)) &&& (31 : Int32)) = 27) rfl (fun hs27 => ?_) (fun hs27 => ?_)
    · refine Mh_tsi (off := 1032) (tgt := 1065) dL_law_33 (by rw [hs27]; decide) (by rw [hs27]; decide) (by rw [hs27]; decide) (by decide) ?_
      refine Mh_aload_n 1 rfl dL_law_1065 ?_
      refine Mh_aload_n 0 rfl dL_law_1066 ?_
      refine Mh_iload_n 3 rfl dL_law_1067 ?_
      refine Mh_iconst (v := 1) dL_law_1068 (by decide) ?_
      refine Mh_iadd dL_law_1069 ?_
      refine Mh_sal rfl dL_law_1070 ?_
      refine Mh_aload_n 0 rfl dL_law_1071 ?_
      refine Mh_iload_n 3 rfl dL_law_1072 ?_
      refine Mh_iconst (v := 2) dL_law_1073 (by decide) ?_
      refine Mh_iadd dL_law_1074 ?_
      refine Mh_sal rfl dL_law_1075 ?_
      refine Mh_cvI (N := mi_X11_check) (q := l1) (ci := 10) (as := [.int (E.2.2.2.2.2.2.2 (ix (l3 + (1 : Int32)))), .int (E.2.2.2.2.2.2.2 (ix (l3 + (2 : Int32))))]) (st := []) (id) cg_yX11_check (by decide) rfl rfl ml_RL_134 iv_yX11_check pd_yX11_check rfl (by decide) (Nat.le_of_ble_eq_true rfl) rfl dL_law_1076 (T_X11_check l E _ _ _ _ _) rfl ?_
      exact t_L_law_1079 l E c0 s0 k18 hk18 _ _ _ _ _ _
    refine Mh_ite (C := ((E.2.2.2.2.2.2.2 (ix l3)) &&& (31 : Int32)) = 28) rfl (fun hs28 => ?_) (fun hs28 => ?_)
    · refine Mh_tsi (off := 1065) (tgt := 1098) dL_law_33 (by rw [hs28]; decide) (by rw [hs28]; decide) (by rw [hs28]; decide) (by decide) ?_
      refine Mh_aload_n 1 rfl dL_law_1098 ?_
      refine Mh_aload_n 0 rfl dL_law_1099 ?_
      refine Mh_iload_n 3 rfl dL_law_1100 ?_
      refine Mh_iconst (v := 1) dL_law_1101 (by decide) ?_
      refine Mh_iadd dL_law_1102 ?_
      refine Mh_sal rfl dL_law_1103 ?_
      refine Mh_cvI (N := mi_X11_count) (q := l1) (ci := 10) (as := [.int (E.2.2.2.2.2.2.2 (ix (l3 + (1 : Int32))))]) (st := []) (id) cg_yX11_count (by decide) rfl rfl ml_RL_138 iv_yX11_count pd_yX11_count rfl (by decide) (Nat.le_of_ble_eq_true rfl) rfl dL_law_1104 (T_X11_count l E _ _ _ _) rfl ?_
      exact t_L_law_1107 l E c0 s0 k18 hk18 _ _ _ _ _ _
    refine Mh_tsd (tgt := 1121) [0, 1, 2, 3, 4, 5, 6, 7, 8, 9, 10, 11, 12, 13, 14, 15, 16, 17, 18, 19, 20, 21, 22, 23, 24, 25, 26, 27, 28] dL_law_33 (by decide) (by decide) (List.forall_mem_cons.mpr ⟨lv_neT hs0 (by decide), List.forall_mem_cons.mpr ⟨lv_neT hs1 (by decide), List.forall_mem_cons.mpr ⟨lv_neT hs2 (by decide), List.forall_mem_cons.mpr ⟨lv_neT hs3 (by decide), List.forall_mem_cons.mpr ⟨lv_neT hs4 (by decide), List.forall_mem_cons.mpr ⟨lv_neT hs5 (by decide), List.forall_mem_cons.mpr ⟨lv_neT hs6 (by decide), List.forall_mem_cons.mpr ⟨lv_neT hs7 (by decide), List.forall_mem_cons.mpr ⟨lv_neT hs8 (by decide), List.forall_mem_cons.mpr ⟨lv_neT hs9 (by decide), List.forall_mem_cons.mpr ⟨lv_neT hs10 (by decide), List.forall_mem_cons.mpr ⟨lv_neT hs11 (by decide), List.forall_mem_cons.mpr ⟨lv_neT hs12 (by decide), List.forall_mem_cons.mpr ⟨lv_neT hs13 (by decide), List.forall_mem_cons.mpr ⟨lv_neT hs14 (by decide), List.forall_mem_cons.mpr ⟨lv_neT hs15 (by decide), List.forall_mem_cons.mpr ⟨lv_neT hs16 (by decide), List.forall_mem_cons.mpr ⟨lv_neT hs17 (by decide), List.forall_mem_cons.mpr ⟨lv_neT hs18 (by decide), List.forall_mem_cons.mpr ⟨lv_neT hs19 (by decide), List.forall_mem_cons.mpr ⟨lv_neT hs20 (by decide), List.forall_mem_cons.mpr ⟨lv_neT hs21 (by decide), List.forall_mem_cons.mpr ⟨lv_neT hs22 (by decide), List.forall_mem_cons.mpr ⟨lv_neT hs23 (by decide), List.forall_mem_cons.mpr ⟨lv_neT hs24 (by decide), List.forall_mem_cons.mpr ⟨lv_neT hs25 (by decide), List.forall_mem_cons.mpr ⟨lv_neT hs26 (by decide), List.forall_mem_cons.mpr ⟨lv_neT hs27 (by decide), List.forall_mem_cons.mpr ⟨lv_neT hs28 (by decide), fun _ h => absurd h List.not_mem_nil⟩⟩⟩⟩⟩⟩⟩⟩⟩⟩⟩⟩⟩⟩⟩⟩⟩⟩⟩⟩⟩⟩⟩⟩⟩⟩⟩⟩⟩) (by decide) ?_
    exact t_L_law_1121 l E c0 s0 k18 hk18 _ _ _ _ _
def f_L_law_18 (L : Nat) (xs : Nat → Int32) : Nat → Nat → Nat → Int32 → Mm → Prop → Int32 × Mm × Prop
  | 0, _, _, _, m, _ => (0, m, False)
  | n + 1, l1, l2, l3, m, o => f_L_law_18b L xs (f_L_law_18 L xs n) l1 l2 l3 m o
theorem t_L_law_18 (l : Launch) (E : En) (c0 s0 : Nat) : ∀ (n : Nat) (l1 : Nat) (l2 : Nat) (l3 : Int32) (m : Mm) (o : Prop), Mh wI l E mi_L_law c0 s0 18 [(0, .ref 0), (1, .ref l1), (2, .ref l2), (3, .int l3)] [] m o (f_L_law_18 E.2.2.2.2.2.2.1 E.2.2.2.2.2.2.2 n l1 l2 l3 m o)
  | 0, _, _, _, _, _ => Mh_out rfl
  | n + 1, l1, l2, l3, m, o => t_L_law_18b l E c0 s0 (f_L_law_18 E.2.2.2.2.2.2.1 E.2.2.2.2.2.2.2 n) (t_L_law_18 l E c0 s0 n) l1 l2 l3 m o
def f_L_law_15 (L : Nat) (xs : Nat → Int32) (l1 : Nat) (y0 : Nat) (m : Mm) (o : Prop) : Int32 × Mm × Prop := f_L_law_18 L xs 1000 l1 y0 (0 : Int32) m o
set_option maxRecDepth 10000 in
theorem t_L_law_15 (l : Launch) (E : En) (c0 s0 : Nat) (l1 : Nat) (y0 : Nat) (m : Mm) (o : Prop) : Mh wI l E mi_L_law c0 s0 15 [(0, .ref 0), (1, .ref l1)] [.ref y0] m o (f_L_law_15 E.2.2.2.2.2.2.1 E.2.2.2.2.2.2.2 l1 y0 m o) := by
  refine Mh_astore_n (lv' := [(2, .ref y0), (0, .ref 0), (1, .ref l1)]) dL_law_15 (Nat.le_of_ble_eq_true rfl) rfl ?_
  refine Mh_iconst (v := 0) dL_law_16 (by decide) ?_
  refine Mh_istore_n (lv' := [(3, .int (0 : Int32)), (2, .ref y0), (0, .ref 0), (1, .ref l1)]) dL_law_17 (Nat.le_of_ble_eq_true rfl) rfl ?_
  refine Mh_sub (lv' := [(0, .ref 0), (1, .ref l1), (2, .ref y0), (3, .int (0 : Int32))]) [2, 3, 1, 0] rfl ?_
  exact t_L_law_18 l E c0 s0 _ _ _ _ _ _
def f_L_law_11 (L : Nat) (xs : Nat → Int32) (l1 : Nat) (y0 : Nat) (m : Mm) (o : Prop) : Int32 × Mm × Prop := bnd (F_X12_init y0 m o) (fun _ m1 o1 => f_L_law_15 L xs l1 y0 m1 o1)
set_option maxRecDepth 10000 in
theorem t_L_law_11 (l : Launch) (E : En) (c0 s0 : Nat) (l1 : Nat) (y0 : Nat) (m : Mm) (o : Prop) : Mh wI l E mi_L_law c0 s0 11 [(0, .ref 0), (1, .ref l1)] [.ref y0] m o (f_L_law_11 E.2.2.2.2.2.2.1 E.2.2.2.2.2.2.2 l1 y0 m o) := by
  refine Mh_dup dL_law_11 rfl ?_
  refine Mh_ciU (N := mi_X12_init) (q := y0) (as := []) (st := [.ref y0]) cg_yX12_init rfl rfl (.inl ml_RL_12) ii_yX12_init pd_yX12_init rfl (by decide) (Nat.le_of_ble_eq_true rfl) rfl dL_law_12 (T_X12_init l E _ _ _) rfl ?_
  exact t_L_law_15 l E c0 s0 _ _ _ _
def f_L_law_7 (L : Nat) (xs : Nat → Int32) (y0 : Nat) (m : Mm) (o : Prop) : Int32 × Mm × Prop := f_L_law_11 L xs y0 (gC m + 1) (nC m 12 0 78) o
set_option maxRecDepth 10000 in
theorem t_L_law_7 (l : Launch) (E : En) (c0 s0 : Nat) (y0 : Nat) (m : Mm) (o : Prop) : Mh wI l E mi_L_law c0 s0 7 [(0, .ref 0)] [.ref y0] m o (f_L_law_7 E.2.2.2.2.2.2.1 E.2.2.2.2.2.2.2 y0 m o) := by
  refine Mh_astore_n (lv' := [(1, .ref y0), (0, .ref 0)]) dL_law_7 (Nat.le_of_ble_eq_true rfl) rfl ?_
  refine Mh_new (ci := 11) (by decide) rfl nin_11 ft_11 ndf_11 cl_RL_10 nins_11 nini_11 dL_law_8 ?_
  refine Mh_sub (lv' := [(0, .ref 0), (1, .ref y0)]) [1, 0] rfl ?_
  exact t_L_law_11 l E c0 s0 _ _ _ _
def f_L_law_3 (L : Nat) (xs : Nat → Int32) (y0 : Nat) (m : Mm) (o : Prop) : Int32 × Mm × Prop := bnd (F_X11_init y0 m o) (fun _ m1 o1 => f_L_law_7 L xs y0 m1 o1)
set_option maxRecDepth 10000 in
theorem t_L_law_3 (l : Launch) (E : En) (c0 s0 : Nat) (y0 : Nat) (m : Mm) (o : Prop) : Mh wI l E mi_L_law c0 s0 3 [(0, .ref 0)] [.ref y0] m o (f_L_law_3 E.2.2.2.2.2.2.1 E.2.2.2.2.2.2.2 y0 m o) := by
  refine Mh_dup dL_law_3 rfl ?_
  refine Mh_ciU (N := mi_X11_init) (q := y0) (as := []) (st := [.ref y0]) cg_yX11_init rfl rfl (.inl ml_RL_9) ii_yX11_init pd_yX11_init rfl (by decide) (Nat.le_of_ble_eq_true rfl) rfl dL_law_4 (T_X11_init l E _ _ _) rfl ?_
  exact t_L_law_7 l E c0 s0 _ _ _
def f_L_law_0 (L : Nat) (xs : Nat → Int32) (m : Mm) (o : Prop) : Int32 × Mm × Prop := f_L_law_3 L xs (gC m + 1) (nC m 11 0 12) o
set_option maxRecDepth 10000 in
theorem t_L_law_0 (l : Launch) (E : En) (c0 s0 : Nat) (m : Mm) (o : Prop) : Mh wI l E mi_L_law c0 s0 0 [(0, .ref 0)] [] m o (f_L_law_0 E.2.2.2.2.2.2.1 E.2.2.2.2.2.2.2  m o) := by
  refine Mh_new (ci := 10) (by decide) rfl nin_10 ft_10 ndf_10 cl_RL_7 nins_10 nini_10 dL_law_0 ?_
  exact t_L_law_3 l E c0 s0 _ _ _
