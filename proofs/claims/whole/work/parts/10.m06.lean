noncomputable def f_Mo_act_J207 (w0 : Int32) (w1 : Int32) (s : St) : Option St :=
  (f_Mo_newBlock w1 w0 s).bind fun q21 =>
  some q21
set_option maxHeartbeats 4000000 in
set_option maxRecDepth 100000 in
theorem t_Mo_act_J207 (G : GG) (hR : gR G = rmx 5 118) (hL : gL G = 4) (C : Cx SM G cX12_act RX12) {Acc : St → Prop}  (w0 : Int32) (w1 : Int32) (s : St) (hr : ∀ v : St, Acc v → RtV SM G cX12_act v) : JJ SM G Acc (f_Mo_act_J207 w0 w1 s) 207 [] [.int w0, .int w1, .ref (ad G 0)] s := by
  unfold f_Mo_act_J207
  refine jr_bind (fun q21 e22 => ?_)
  refine jr_callVV C FX_10 km_X12_536 oS_0.1 oS_0.2 (rk hR rfl) (c_Mo_newBlock (gl G) w1 w0 s e22) rfl rfl rfl (Nat.le_of_ble_eq_true rfl) dX12_act_207 ?_
  exact jr_end (fun h => hr q21 h _ _ dX12_act_210)
noncomputable def f_Mo_act_J194 (v1 : Int32) (v2 : Int32) (s : St) : Option St :=
  if v1 = 42 then
  f_Mo_act_J207 1 v2 s
  else
  f_Mo_act_J207 0 v2 s
set_option maxHeartbeats 4000000 in
set_option maxRecDepth 100000 in
theorem t_Mo_act_J194 (G : GG) (hR : gR G = rmx 5 118) (hL : gL G = 4) (C : Cx SM G cX12_act RX12) {Acc : St → Prop}  (v1 : Int32) (v2 : Int32) (s : St) (hr : ∀ v : St, Acc v → RtV SM G cX12_act v) : JJ SM G Acc (f_Mo_act_J194 v1 v2 s) 194 [(0, .ref (ad G 0)), (1, .int v1), (2, .int v2)] [] s := by
  unfold f_Mo_act_J194
  refine jr_aload_n C 0 rfl rfl dX12_act_194 ?_
  refine jr_iload_n C 2 rfl rfl dX12_act_195 ?_
  refine jr_iload_n C 1 rfl rfl dX12_act_196 ?_
  refine jr_bipush C bp_42 dX12_act_197 ?_
  refine jr_icmp_ne C (tgt := 206) dX12_act_199 (by decide) (fun h20 => ?_) (fun h20 => ?_)
  · refine jo_neg h20 ?_
    refine jr_iconst C ic_0 dX12_act_206 ?_
    refine jr_lv [] rfl ?_
    exact t_Mo_act_J207 G hR hL C  0 v2 s hr
  refine jo_pos h20 ?_
  refine jr_iconst C ic_1 dX12_act_202 ?_
  refine jr_goto C (tgt := 207) dX12_act_203 (by decide) ?_
  refine jr_lv [] rfl ?_
  exact t_Mo_act_J207 G hR hL C  1 v2 s hr
noncomputable def f_Mo_act_J299 (v2 : Int32) (v3 : Int32) (s : St) : Option St :=
  gd v2 1200 <|
  (f_Mo_give (s.1 5 (v2 : Int32).toNatClampNeg) v3 0 0 s).bind fun q39 =>
  some q39
set_option maxHeartbeats 4000000 in
set_option maxRecDepth 100000 in
theorem t_Mo_act_J299 (G : GG) (hR : gR G = rmx 5 118) (hL : gL G = 4) (C : Cx SM G cX12_act RX12) {Acc : St → Prop}  (v2 : Int32) (v3 : Int32) (s : St) (hr : ∀ v : St, Acc v → RtV SM G cX12_act v) : JJ SM G Acc (f_Mo_act_J299 v2 v3 s) 299 [(0, .ref (ad G 0)), (2, .int v2), (3, .int v3)] [] s := by
  unfold f_Mo_act_J299
  refine jr_aload_n C 0 rfl rfl dX12_act_299 ?_
  refine jr_aload_n C 0 rfl rfl dX12_act_300 ?_
  refine jr_getR C FX_10 6 oS_0.1 oS_0.2 ff_10_6.1 ff_10_6.2 rfl fl_X12_24 dX12_act_301 ?_
  refine jr_iload_n C 1 rfl rfl dX12_act_304 ?_
  refine jr_iald C oS_5.1 oS_5.2.1 oS_5.2.2 dX12_act_305 ?_
  refine jr_iload_n C 2 rfl rfl dX12_act_306 ?_
  refine jr_iconst C ic_0 dX12_act_307 ?_
  refine jr_iconst C ic_0 dX12_act_308 ?_
  refine jr_bind (fun q39 e40 => ?_)
  refine jr_callVV C FX_10 km_X12_473 oS_0.1 oS_0.2 (rk hR rfl) (c_Mo_give (gl G) (s.1 5 (v2 : Int32).toNatClampNeg) v3 0 0 s e40) rfl rfl rfl (Nat.le_of_ble_eq_true rfl) dX12_act_309 ?_
  exact jr_end (fun h => hr q39 h _ _ dX12_act_312)
noncomputable def f_Mo_act_J269 (v2 : Int32) (w0 : Int32) (s : St) : Option St :=
  gd (s.1 0 28) 2 <|
  if (s.1 0 55) ≤ (s.1 27 ((s.1 0 28) : Int32).toNatClampNeg) then
  f_Mo_act_J299 v2 w0 s
  else
  gd (s.1 0 28) 2 <|
  gd (s.1 0 28) 2 <|
  lt (uI s 27 ((s.1 0 28) : Int32).toNatClampNeg ((s.1 27 ((s.1 0 28) : Int32).toNatClampNeg) + 1)) fun s41 =>
  f_Mo_act_J299 v2 w0 s41
set_option maxHeartbeats 4000000 in
set_option maxRecDepth 100000 in
theorem t_Mo_act_J269 (G : GG) (hR : gR G = rmx 5 118) (hL : gL G = 4) (C : Cx SM G cX12_act RX12) {Acc : St → Prop}  (v2 : Int32) (w0 : Int32) (s : St) (hr : ∀ v : St, Acc v → RtV SM G cX12_act v) : JJ SM G Acc (f_Mo_act_J269 v2 w0 s) 269 [(0, .ref (ad G 0)), (2, .int v2)] [.int w0] s := by
  unfold f_Mo_act_J269
  refine jr_istore_n C (lv' := [(3, .int w0), (0, .ref (ad G 0)), (2, .int v2)]) (ltL hL rfl) rfl rfl dX12_act_269 ?_
  refine jr_aload_n C 1 rfl rfl dX12_act_270 ?_
  refine jr_getR C FX_10 44 oS_0.1 oS_0.2 ff_10_44.1 ff_10_44.2 rfl fl_X12_97 dX12_act_271 ?_
  refine jr_aload_n C 1 rfl rfl dX12_act_274 ?_
  refine jr_getI C FX_10 28 oS_0.1 oS_0.2 ff_10_28.1 ff_10_28.2 fl_X12_394 dX12_act_275 ?_
  refine jr_iald C oS_27.1 oS_27.2.1 oS_27.2.2 dX12_act_278 ?_
  refine jr_aload_n C 1 rfl rfl dX12_act_279 ?_
  refine jr_getI C FX_10 55 oS_0.1 oS_0.2 ff_10_55.1 ff_10_55.2 fl_X12_384 dX12_act_280 ?_
  refine jr_icmp_ge C (tgt := 299) dX12_act_283 (by decide) (fun h38 => ?_) (fun h38 => ?_)
  · refine jo_pos h38 ?_
    refine jr_lv [1, 2, 0] rfl ?_
    exact t_Mo_act_J299 G hR hL C  v2 w0 s hr
  refine jo_neg h38 ?_
  refine jr_aload_n C 1 rfl rfl dX12_act_286 ?_
  refine jr_getR C FX_10 44 oS_0.1 oS_0.2 ff_10_44.1 ff_10_44.2 rfl fl_X12_97 dX12_act_287 ?_
  refine jr_aload_n C 1 rfl rfl dX12_act_290 ?_
  refine jr_getI C FX_10 28 oS_0.1 oS_0.2 ff_10_28.1 ff_10_28.2 fl_X12_394 dX12_act_291 ?_
  refine jr_dup2 C rfl rfl dX12_act_294 ?_
  refine jr_iald C oS_27.1 oS_27.2.1 oS_27.2.2 dX12_act_295 ?_
  refine jr_iconst C ic_1 dX12_act_296 ?_
  refine jr_iadd C dX12_act_297 ?_
  refine jr_iast C oS_27.1 oS_27.2.1 oS_27.2.2 dX12_act_298 (jr_ltS fun s41 => ?_)
  refine jr_lv [1, 2, 0] rfl ?_
  exact t_Mo_act_J299 G hR hL C  v2 w0 s41 hr
noncomputable def f_Mo_act_J395  (s : St) : Option St :=
  lt (uI s 0 56 ((s.1 0 56) + 1)) fun s51 =>
  some s51
set_option maxHeartbeats 4000000 in
set_option maxRecDepth 100000 in
theorem t_Mo_act_J395 (G : GG) (hR : gR G = rmx 5 118) (hL : gL G = 4) (C : Cx SM G cX12_act RX12) {Acc : St → Prop}   (s : St) (hr : ∀ v : St, Acc v → RtV SM G cX12_act v) : JJ SM G Acc (f_Mo_act_J395 s) 395 [(0, .ref (ad G 0))] [] s := by
  unfold f_Mo_act_J395
  refine jr_aload_n C 0 rfl rfl dX12_act_395 ?_
  refine jr_dup C rfl dX12_act_396 ?_
  refine jr_getI C FX_10 56 oS_0.1 oS_0.2 ff_10_56.1 ff_10_56.2 fl_X12_409 dX12_act_397 ?_
  refine jr_iconst C ic_1 dX12_act_400 ?_
  refine jr_iadd C dX12_act_401 ?_
  refine jr_putI C FX_10 56 oS_0.1 oS_0.2 ff_10_56.1 ff_10_56.2 rfl rfl fl_X12_409 dX12_act_402 (jr_ltS fun s51 => ?_)
  exact jr_end (fun h => hr s51 h _ _ dX12_act_405)
noncomputable def f_Mo_act_J331 (v2 : Int32) (s : St) : Option St :=
  gd (s.1 0 28) 2 <|
  (f_Mo_value v2 s).bind fun q46 =>
  gd (s.1 0 28) 2 <|
  lt (uI s 23 ((s.1 0 28) : Int32).toNatClampNeg (((((s.1 23 ((s.1 0 28) : Int32).toNatClampNeg) * 31) + 3) * 31) + q46)) fun s48 =>
  if (s48.1 0 28) = 1 then
  some s48
  else
  if 100 ≤ (s48.1 0 56) then
  f_Mo_act_J395 s48
  else
  (f_Mo_value v2 s48).bind fun q52 =>
  gd (s48.1 0 56) 100 <|
  lt (uI s48 37 ((s48.1 0 56) : Int32).toNatClampNeg q52) fun s54 =>
  f_Mo_act_J395 s54
set_option maxHeartbeats 4000000 in
set_option maxRecDepth 100000 in
theorem t_Mo_act_J331 (G : GG) (hR : gR G = rmx 5 118) (hL : gL G = 4) (C : Cx SM G cX12_act RX12) {Acc : St → Prop}  (v2 : Int32) (s : St) (hr : ∀ v : St, Acc v → RtV SM G cX12_act v) : JJ SM G Acc (f_Mo_act_J331 v2 s) 331 [(0, .ref (ad G 0)), (2, .int v2)] [] s := by
  unfold f_Mo_act_J331
  refine jr_aload_n C 0 rfl rfl dX12_act_331 ?_
  refine jr_getR C FX_10 40 oS_0.1 oS_0.2 ff_10_40.1 ff_10_40.2 rfl fl_X12_85 dX12_act_332 ?_
  refine jr_aload_n C 0 rfl rfl dX12_act_335 ?_
  refine jr_getI C FX_10 28 oS_0.1 oS_0.2 ff_10_28.1 ff_10_28.2 fl_X12_394 dX12_act_336 ?_
  refine jr_aload_n C 0 rfl rfl dX12_act_339 ?_
  refine jr_getR C FX_10 40 oS_0.1 oS_0.2 ff_10_40.1 ff_10_40.2 rfl fl_X12_85 dX12_act_340 ?_
  refine jr_aload_n C 0 rfl rfl dX12_act_343 ?_
  refine jr_getI C FX_10 28 oS_0.1 oS_0.2 ff_10_28.1 ff_10_28.2 fl_X12_394 dX12_act_344 ?_
  refine jr_iald C oS_23.1 oS_23.2.1 oS_23.2.2 dX12_act_347 ?_
  refine jr_bipush C bp_31 dX12_act_348 ?_
  refine jr_imul C dX12_act_350 ?_
  refine jr_iconst C ic_3 dX12_act_351 ?_
  refine jr_iadd C dX12_act_352 ?_
  refine jr_bipush C bp_31 dX12_act_353 ?_
  refine jr_imul C dX12_act_355 ?_
  refine jr_aload_n C 0 rfl rfl dX12_act_356 ?_
  refine jr_iload_n C 1 rfl rfl dX12_act_357 ?_
  refine jr_bind (fun q46 e47 => ?_)
  refine jr_callVI C FX_10 km_X12_451 oS_0.1 oS_0.2 (rk hR rfl) (c_Mo_value (gl G) v2 s e47) rfl rfl rfl (Nat.le_of_ble_eq_true rfl) dX12_act_358 ?_
  refine jr_iadd C dX12_act_361 ?_
  refine jr_iast C oS_23.1 oS_23.2.1 oS_23.2.2 dX12_act_362 (jr_ltS fun s48 => ?_)
  refine jr_aload_n C 0 rfl rfl dX12_act_363 ?_
  refine jr_getI C FX_10 28 oS_0.1 oS_0.2 ff_10_28.1 ff_10_28.2 fl_X12_394 dX12_act_364 ?_
  refine jr_iconst C ic_1 dX12_act_367 ?_
  refine jr_icmp_ne C (tgt := 372) dX12_act_368 (by decide) (fun h49 => ?_) (fun h49 => ?_)
  · refine jo_neg h49 ?_
    refine jr_aload_n C 0 rfl rfl dX12_act_372 ?_
    refine jr_getI C FX_10 56 oS_0.1 oS_0.2 ff_10_56.1 ff_10_56.2 fl_X12_409 dX12_act_373 ?_
    refine jr_bipush C bp_100 dX12_act_376 ?_
    refine jr_icmp_ge C (tgt := 395) dX12_act_378 (by decide) (fun h50 => ?_) (fun h50 => ?_)
    · refine jo_pos h50 ?_
      refine jr_lv [0] rfl ?_
      exact t_Mo_act_J395 G hR hL C   s48 hr
    refine jo_neg h50 ?_
    refine jr_aload_n C 0 rfl rfl dX12_act_381 ?_
    refine jr_getR C FX_10 54 oS_0.1 oS_0.2 ff_10_54.1 ff_10_54.2 rfl fl_X12_127 dX12_act_382 ?_
    refine jr_aload_n C 0 rfl rfl dX12_act_385 ?_
    refine jr_getI C FX_10 56 oS_0.1 oS_0.2 ff_10_56.1 ff_10_56.2 fl_X12_409 dX12_act_386 ?_
    refine jr_aload_n C 0 rfl rfl dX12_act_389 ?_
    refine jr_iload_n C 1 rfl rfl dX12_act_390 ?_
    refine jr_bind (fun q52 e53 => ?_)
    refine jr_callVI C FX_10 km_X12_451 oS_0.1 oS_0.2 (rk hR rfl) (c_Mo_value (gl G) v2 s48 e53) rfl rfl rfl (Nat.le_of_ble_eq_true rfl) dX12_act_391 ?_
    refine jr_iast C oS_37.1 oS_37.2.1 oS_37.2.2 dX12_act_394 (jr_ltS fun s54 => ?_)
    refine jr_lv [0] rfl ?_
    exact t_Mo_act_J395 G hR hL C   s54 hr
  refine jo_pos h49 ?_
  exact jr_end (fun h => hr s48 h _ _ dX12_act_371)
noncomputable def f_Mo_act (v1 : Int32) (v2 : Int32) (s : St) : Option St :=
  if v1 = 35 then
  (gd v2 1200 <|
  gd (s.1 0 28) 2 <|
  lt (uI s 20 ((s.1 0 28) : Int32).toNatClampNeg (s.1 5 (v2 : Int32).toNatClampNeg)) fun s2 =>
  some s2)
  else if v1 = 36 then
  (gd v2 1200 <|
  (f_Mo_call (s.1 5 (v2 : Int32).toNatClampNeg) s).bind fun q4 =>
  some q4)
  else if v1 = 37 then
  (gd (s.1 0 28) 2 <|
  if (s.1 26 ((s.1 0 28) : Int32).toNatClampNeg) = 0 then
  (gd (s.1 0 28) 2 <|
  lt (uI s 21 ((s.1 0 28) : Int32).toNatClampNeg 1) fun s10 =>
  some s10)
  else
  gd (s.1 0 28) 2 <|
  gd (s.1 0 28) 2 <|
  lt (uI s 26 ((s.1 0 28) : Int32).toNatClampNeg ((s.1 26 ((s.1 0 28) : Int32).toNatClampNeg) - 1)) fun s8 =>
  gd (s8.1 0 28) 2 <|
  gd ((32 * (s8.1 0 28)) + (s8.1 26 ((s8.1 0 28) : Int32).toNatClampNeg)) 64 <|
  gd (s8.1 0 28) 2 <|
  lt (uI s8 20 ((s8.1 0 28) : Int32).toNatClampNeg (s8.1 25 (((32 * (s8.1 0 28)) + (s8.1 26 ((s8.1 0 28) : Int32).toNatClampNeg)) : Int32).toNatClampNeg)) fun s9 =>
  some s9)
  else if v1 = 38 then
  (gd (s.1 0 28) 2 <|
  lt (uI s 21 ((s.1 0 28) : Int32).toNatClampNeg 1) fun s12 =>
  some s12)
  else if v1 = 39 then
  ((f_Mo_push v2 s).bind fun q14 =>
  some q14)
  else if v1 = 40 then
  ((f_Mo_pop v2 s).bind fun q17 =>
  some q17)
  else if v1 = 41 then
  f_Mo_act_J194 v1 v2 s
  else if v1 = 42 then
  f_Mo_act_J194 v1 v2 s
  else if v1 = 43 then
  ((f_Mo_grow v2 s).bind fun q25 =>
  some q25)
  else if v1 = 44 then
  ((f_Mo_free v2 s).bind fun q28 =>
  some q28)
  else if v1 = 45 then
  ((f_Mo_copy v2 s).bind fun q31 =>
  some q31)
  else if v1 = 46 then
  ((f_Mo_fill v2 s).bind fun q34 =>
  some q34)
  else if v1 = 47 then
  (gd (s.1 0 28) 2 <|
  if (s.1 0 55) ≤ (s.1 27 ((s.1 0 28) : Int32).toNatClampNeg) then
  f_Mo_act_J269 v2 (-1) s
  else
  gd (s.1 0 28) 2 <|
  gd (s.1 27 ((s.1 0 28) : Int32).toNatClampNeg) 100 <|
  f_Mo_act_J269 v2 (s.1 36 ((s.1 27 ((s.1 0 28) : Int32).toNatClampNeg) : Int32).toNatClampNeg) s)
  else if v1 = 48 then
  ((f_Mo_shade v2 s).bind fun q43 =>
  if q43 = 0 then
  f_Mo_act_J331 v2 s
  else
  (f_Mo_origin v2 s).bind fun q55 =>
  (f_Mo_told 3 q55 s).bind fun q57 =>
  f_Mo_act_J331 v2 q57)
  else if v1 = 49 then
  ((f_Mo_marked v2 s).bind fun q60 =>
  some q60)
  else (f_Mo_look v2 s).bind fun q62 =>
  some q62
set_option maxHeartbeats 4000000 in
set_option maxRecDepth 100000 in
theorem t_Mo_act (G : GG) (hR : gR G = rmx 5 118) (hL : gL G = 4) (C : Cx SM G cX12_act RX12) {Acc : St → Prop}  (v1 : Int32) (v2 : Int32) (s : St) (hr : ∀ v : St, Acc v → RtV SM G cX12_act v) : JJ SM G Acc (f_Mo_act v1 v2 s) 0 [(0, .ref (ad G 0)), (1, .int v1), (2, .int v2)] [] s := by
  unfold f_Mo_act
  refine jr_iload_n C 1 rfl rfl dX12_act_0 ?_
  refine jo_cases (fun h1 => ?_) (fun h1 => ?_)
  · refine jr_tabIn C dX12_act_1 h1 (by decide) (by decide) rfl (tgt := 76) (by decide) ?_
    refine jr_aload_n C 0 rfl rfl dX12_act_76 ?_
    refine jr_getR C FX_10 37 oS_0.1 oS_0.2 ff_10_37.1 ff_10_37.2 rfl fl_X12_76 dX12_act_77 ?_
    refine jr_aload_n C 0 rfl rfl dX12_act_80 ?_
    refine jr_getI C FX_10 28 oS_0.1 oS_0.2 ff_10_28.1 ff_10_28.2 fl_X12_394 dX12_act_81 ?_
    refine jr_aload_n C 0 rfl rfl dX12_act_84 ?_
    refine jr_getR C FX_10 6 oS_0.1 oS_0.2 ff_10_6.1 ff_10_6.2 rfl fl_X12_24 dX12_act_85 ?_
    refine jr_iload_n C 2 rfl rfl dX12_act_88 ?_
    refine jr_iald C oS_5.1 oS_5.2.1 oS_5.2.2 dX12_act_89 ?_
    refine jr_iast C oS_20.1 oS_20.2.1 oS_20.2.2 dX12_act_90 (jr_ltS fun s2 => ?_)
    exact jr_end (fun h => hr s2 h _ _ dX12_act_91)
  refine jo_cases (fun h3 => ?_) (fun h3 => ?_)
  · refine jr_tabIn C dX12_act_1 h3 (by decide) (by decide) rfl (tgt := 92) (by decide) ?_
    refine jr_aload_n C 0 rfl rfl dX12_act_92 ?_
    refine jr_aload_n C 0 rfl rfl dX12_act_93 ?_
    refine jr_getR C FX_10 6 oS_0.1 oS_0.2 ff_10_6.1 ff_10_6.2 rfl fl_X12_24 dX12_act_94 ?_
    refine jr_iload_n C 2 rfl rfl dX12_act_97 ?_
    refine jr_iald C oS_5.1 oS_5.2.1 oS_5.2.2 dX12_act_98 ?_
    refine jr_bind (fun q4 e5 => ?_)
    refine jr_callVV C FX_10 km_X12_527 oS_0.1 oS_0.2 (rk hR rfl) (c_Mo_call (gl G) (s.1 5 (v2 : Int32).toNatClampNeg) s e5) rfl rfl rfl (Nat.le_of_ble_eq_true rfl) dX12_act_99 ?_
    exact jr_end (fun h => hr q4 h _ _ dX12_act_102)
  refine jo_cases (fun h6 => ?_) (fun h6 => ?_)
  · refine jr_tabIn C dX12_act_1 h6 (by decide) (by decide) rfl (tgt := 103) (by decide) ?_
    refine jr_aload_n C 0 rfl rfl dX12_act_103 ?_
    refine jr_getR C FX_10 43 oS_0.1 oS_0.2 ff_10_43.1 ff_10_43.2 rfl fl_X12_94 dX12_act_104 ?_
    refine jr_aload_n C 0 rfl rfl dX12_act_107 ?_
    refine jr_getI C FX_10 28 oS_0.1 oS_0.2 ff_10_28.1 ff_10_28.2 fl_X12_394 dX12_act_108 ?_
    refine jr_iald C oS_26.1 oS_26.2.1 oS_26.2.2 dX12_act_111 ?_
    refine jr_if_ne C (tgt := 126) dX12_act_112 (by decide) (fun h7 => ?_) (fun h7 => ?_)
    · refine jo_neg h7 ?_
      refine jr_aload_n C 0 rfl rfl dX12_act_126 ?_
      refine jr_getR C FX_10 43 oS_0.1 oS_0.2 ff_10_43.1 ff_10_43.2 rfl fl_X12_94 dX12_act_127 ?_
      refine jr_aload_n C 0 rfl rfl dX12_act_130 ?_
      refine jr_getI C FX_10 28 oS_0.1 oS_0.2 ff_10_28.1 ff_10_28.2 fl_X12_394 dX12_act_131 ?_
      refine jr_dup2 C rfl rfl dX12_act_134 ?_
      refine jr_iald C oS_26.1 oS_26.2.1 oS_26.2.2 dX12_act_135 ?_
      refine jr_iconst C ic_1 dX12_act_136 ?_
      refine jr_isub C dX12_act_137 ?_
      refine jr_iast C oS_26.1 oS_26.2.1 oS_26.2.2 dX12_act_138 (jr_ltS fun s8 => ?_)
      refine jr_aload_n C 0 rfl rfl dX12_act_139 ?_
      refine jr_getR C FX_10 37 oS_0.1 oS_0.2 ff_10_37.1 ff_10_37.2 rfl fl_X12_76 dX12_act_140 ?_
      refine jr_aload_n C 0 rfl rfl dX12_act_143 ?_
      refine jr_getI C FX_10 28 oS_0.1 oS_0.2 ff_10_28.1 ff_10_28.2 fl_X12_394 dX12_act_144 ?_
      refine jr_aload_n C 0 rfl rfl dX12_act_147 ?_
      refine jr_getR C FX_10 42 oS_0.1 oS_0.2 ff_10_42.1 ff_10_42.2 rfl fl_X12_91 dX12_act_148 ?_
      refine jr_bipush C bp_32 dX12_act_151 ?_
      refine jr_aload_n C 0 rfl rfl dX12_act_153 ?_
      refine jr_getI C FX_10 28 oS_0.1 oS_0.2 ff_10_28.1 ff_10_28.2 fl_X12_394 dX12_act_154 ?_
      refine jr_imul C dX12_act_157 ?_
      refine jr_aload_n C 0 rfl rfl dX12_act_158 ?_
      refine jr_getR C FX_10 43 oS_0.1 oS_0.2 ff_10_43.1 ff_10_43.2 rfl fl_X12_94 dX12_act_159 ?_
      refine jr_aload_n C 0 rfl rfl dX12_act_162 ?_
      refine jr_getI C FX_10 28 oS_0.1 oS_0.2 ff_10_28.1 ff_10_28.2 fl_X12_394 dX12_act_163 ?_
      refine jr_iald C oS_26.1 oS_26.2.1 oS_26.2.2 dX12_act_166 ?_
      refine jr_iadd C dX12_act_167 ?_
      refine jr_iald C oS_25.1 oS_25.2.1 oS_25.2.2 dX12_act_168 ?_
      refine jr_iast C oS_20.1 oS_20.2.1 oS_20.2.2 dX12_act_169 (jr_ltS fun s9 => ?_)
      exact jr_end (fun h => hr s9 h _ _ dX12_act_170)
    refine jo_pos h7 ?_
    refine jr_aload_n C 0 rfl rfl dX12_act_115 ?_
    refine jr_getR C FX_10 38 oS_0.1 oS_0.2 ff_10_38.1 ff_10_38.2 rfl fl_X12_79 dX12_act_116 ?_
    refine jr_aload_n C 0 rfl rfl dX12_act_119 ?_
    refine jr_getI C FX_10 28 oS_0.1 oS_0.2 ff_10_28.1 ff_10_28.2 fl_X12_394 dX12_act_120 ?_
    refine jr_iconst C ic_1 dX12_act_123 ?_
    refine jr_iast C oS_21.1 oS_21.2.1 oS_21.2.2 dX12_act_124 (jr_ltS fun s10 => ?_)
    exact jr_end (fun h => hr s10 h _ _ dX12_act_125)
  refine jo_cases (fun h11 => ?_) (fun h11 => ?_)
  · refine jr_tabIn C dX12_act_1 h11 (by decide) (by decide) rfl (tgt := 171) (by decide) ?_
    refine jr_aload_n C 0 rfl rfl dX12_act_171 ?_
    refine jr_getR C FX_10 38 oS_0.1 oS_0.2 ff_10_38.1 ff_10_38.2 rfl fl_X12_79 dX12_act_172 ?_
    refine jr_aload_n C 0 rfl rfl dX12_act_175 ?_
    refine jr_getI C FX_10 28 oS_0.1 oS_0.2 ff_10_28.1 ff_10_28.2 fl_X12_394 dX12_act_176 ?_
    refine jr_iconst C ic_1 dX12_act_179 ?_
    refine jr_iast C oS_21.1 oS_21.2.1 oS_21.2.2 dX12_act_180 (jr_ltS fun s12 => ?_)
    exact jr_end (fun h => hr s12 h _ _ dX12_act_181)
  refine jo_cases (fun h13 => ?_) (fun h13 => ?_)
  · refine jr_tabIn C dX12_act_1 h13 (by decide) (by decide) rfl (tgt := 182) (by decide) ?_
    refine jr_aload_n C 0 rfl rfl dX12_act_182 ?_
    refine jr_iload_n C 2 rfl rfl dX12_act_183 ?_
    refine jr_bind (fun q14 e15 => ?_)
    refine jr_callVV C FX_10 km_X12_530 oS_0.1 oS_0.2 (rk hR rfl) (c_Mo_push (gl G) v2 s e15) rfl rfl rfl (Nat.le_of_ble_eq_true rfl) dX12_act_184 ?_
    exact jr_end (fun h => hr q14 h _ _ dX12_act_187)
  refine jo_cases (fun h16 => ?_) (fun h16 => ?_)
  · refine jr_tabIn C dX12_act_1 h16 (by decide) (by decide) rfl (tgt := 188) (by decide) ?_
    refine jr_aload_n C 0 rfl rfl dX12_act_188 ?_
    refine jr_iload_n C 2 rfl rfl dX12_act_189 ?_
    refine jr_bind (fun q17 e18 => ?_)
    refine jr_callVV C FX_10 km_X12_533 oS_0.1 oS_0.2 (rk hR rfl) (c_Mo_pop (gl G) v2 s e18) rfl rfl rfl (Nat.le_of_ble_eq_true rfl) dX12_act_190 ?_
    exact jr_end (fun h => hr q17 h _ _ dX12_act_193)
  refine jo_cases (fun h19 => ?_) (fun h19 => ?_)
  · refine jr_tabIn C dX12_act_1 h19 (by decide) (by decide) rfl (tgt := 194) (by decide) ?_
    exact t_Mo_act_J194 G hR hL C  v1 v2 s hr
  refine jo_cases (fun h23 => ?_) (fun h23 => ?_)
  · refine jr_tabIn C dX12_act_1 h23 (by decide) (by decide) rfl (tgt := 194) (by decide) ?_
    exact t_Mo_act_J194 G hR hL C  v1 v2 s hr
  refine jo_cases (fun h24 => ?_) (fun h24 => ?_)
  · refine jr_tabIn C dX12_act_1 h24 (by decide) (by decide) rfl (tgt := 211) (by decide) ?_
    refine jr_aload_n C 0 rfl rfl dX12_act_211 ?_
    refine jr_iload_n C 2 rfl rfl dX12_act_212 ?_
    refine jr_bind (fun q25 e26 => ?_)
    refine jr_callVV C FX_10 km_X12_540 oS_0.1 oS_0.2 (rk hR rfl) (c_Mo_grow (gl G) v2 s e26) rfl rfl rfl (Nat.le_of_ble_eq_true rfl) dX12_act_213 ?_
    exact jr_end (fun h => hr q25 h _ _ dX12_act_216)
  refine jo_cases (fun h27 => ?_) (fun h27 => ?_)
  · refine jr_tabIn C dX12_act_1 h27 (by decide) (by decide) rfl (tgt := 217) (by decide) ?_
    refine jr_aload_n C 0 rfl rfl dX12_act_217 ?_
    refine jr_iload_n C 2 rfl rfl dX12_act_218 ?_
    refine jr_bind (fun q28 e29 => ?_)
    refine jr_callVV C FX_10 km_X12_543 oS_0.1 oS_0.2 (rk hR rfl) (c_Mo_free (gl G) v2 s e29) rfl rfl rfl (Nat.le_of_ble_eq_true rfl) dX12_act_219 ?_
    exact jr_end (fun h => hr q28 h _ _ dX12_act_222)
  refine jo_cases (fun h30 => ?_) (fun h30 => ?_)
  · refine jr_tabIn C dX12_act_1 h30 (by decide) (by decide) rfl (tgt := 223) (by decide) ?_
    refine jr_aload_n C 0 rfl rfl dX12_act_223 ?_
    refine jr_iload_n C 2 rfl rfl dX12_act_224 ?_
    refine jr_bind (fun q31 e32 => ?_)
    refine jr_callVV C FX_10 km_X12_546 oS_0.1 oS_0.2 (rk hR rfl) (c_Mo_copy (gl G) v2 s e32) rfl rfl rfl (Nat.le_of_ble_eq_true rfl) dX12_act_225 ?_
    exact jr_end (fun h => hr q31 h _ _ dX12_act_228)
  refine jo_cases (fun h33 => ?_) (fun h33 => ?_)
  · refine jr_tabIn C dX12_act_1 h33 (by decide) (by decide) rfl (tgt := 229) (by decide) ?_
    refine jr_aload_n C 0 rfl rfl dX12_act_229 ?_
    refine jr_iload_n C 2 rfl rfl dX12_act_230 ?_
    refine jr_bind (fun q34 e35 => ?_)
    refine jr_callVV C FX_10 km_X12_549 oS_0.1 oS_0.2 (rk hR rfl) (c_Mo_fill (gl G) v2 s e35) rfl rfl rfl (Nat.le_of_ble_eq_true rfl) dX12_act_231 ?_
    exact jr_end (fun h => hr q34 h _ _ dX12_act_234)
  refine jo_cases (fun h36 => ?_) (fun h36 => ?_)
  · refine jr_tabIn C dX12_act_1 h36 (by decide) (by decide) rfl (tgt := 235) (by decide) ?_
    refine jr_aload_n C 0 rfl rfl dX12_act_235 ?_
    refine jr_getR C FX_10 44 oS_0.1 oS_0.2 ff_10_44.1 ff_10_44.2 rfl fl_X12_97 dX12_act_236 ?_
    refine jr_aload_n C 0 rfl rfl dX12_act_239 ?_
    refine jr_getI C FX_10 28 oS_0.1 oS_0.2 ff_10_28.1 ff_10_28.2 fl_X12_394 dX12_act_240 ?_
    refine jr_iald C oS_27.1 oS_27.2.1 oS_27.2.2 dX12_act_243 ?_
    refine jr_aload_n C 0 rfl rfl dX12_act_244 ?_
    refine jr_getI C FX_10 55 oS_0.1 oS_0.2 ff_10_55.1 ff_10_55.2 fl_X12_384 dX12_act_245 ?_
    refine jr_icmp_ge C (tgt := 268) dX12_act_248 (by decide) (fun h37 => ?_) (fun h37 => ?_)
    · refine jo_pos h37 ?_
      refine jr_iconst C ic_m1 dX12_act_268 ?_
      refine jr_lv [0, 2] rfl ?_
      exact t_Mo_act_J269 G hR hL C  v2 (-1) s hr
    refine jo_neg h37 ?_
    refine jr_aload_n C 0 rfl rfl dX12_act_251 ?_
    refine jr_getR C FX_10 53 oS_0.1 oS_0.2 ff_10_53.1 ff_10_53.2 rfl fl_X12_124 dX12_act_252 ?_
    refine jr_aload_n C 0 rfl rfl dX12_act_255 ?_
    refine jr_getR C FX_10 44 oS_0.1 oS_0.2 ff_10_44.1 ff_10_44.2 rfl fl_X12_97 dX12_act_256 ?_
    refine jr_aload_n C 0 rfl rfl dX12_act_259 ?_
    refine jr_getI C FX_10 28 oS_0.1 oS_0.2 ff_10_28.1 ff_10_28.2 fl_X12_394 dX12_act_260 ?_
    refine jr_iald C oS_27.1 oS_27.2.1 oS_27.2.2 dX12_act_263 ?_
    refine jr_iald C oS_36.1 oS_36.2.1 oS_36.2.2 dX12_act_264 ?_
    refine jr_goto C (tgt := 269) dX12_act_265 (by decide) ?_
    refine jr_lv [0, 2] rfl ?_
    exact t_Mo_act_J269 G hR hL C  v2 (s.1 36 ((s.1 27 ((s.1 0 28) : Int32).toNatClampNeg) : Int32).toNatClampNeg) s hr
  refine jo_cases (fun h42 => ?_) (fun h42 => ?_)
  · refine jr_tabIn C dX12_act_1 h42 (by decide) (by decide) rfl (tgt := 313) (by decide) ?_
    refine jr_aload_n C 0 rfl rfl dX12_act_313 ?_
    refine jr_iload_n C 2 rfl rfl dX12_act_314 ?_
    refine jr_bind (fun q43 e44 => ?_)
    refine jr_callVI C FX_10 km_X12_454 oS_0.1 oS_0.2 (rk hR rfl) (c_Mo_shade (gl G) v2 s e44) rfl rfl rfl (Nat.le_of_ble_eq_true rfl) dX12_act_315 ?_
    refine jr_if_eq C (tgt := 331) dX12_act_318 (by decide) (fun h45 => ?_) (fun h45 => ?_)
    · refine jo_pos h45 ?_
      refine jr_lv [0, 2] rfl ?_
      exact t_Mo_act_J331 G hR hL C  v2 s hr
    refine jo_neg h45 ?_
    refine jr_aload_n C 0 rfl rfl dX12_act_321 ?_
    refine jr_iconst C ic_3 dX12_act_322 ?_
    refine jr_aload_n C 0 rfl rfl dX12_act_323 ?_
    refine jr_iload_n C 2 rfl rfl dX12_act_324 ?_
    refine jr_bind (fun q55 e56 => ?_)
    refine jr_callVI C FX_10 km_X12_457 oS_0.1 oS_0.2 (rk hR rfl) (c_Mo_origin (gl G) v2 s e56) rfl rfl rfl (Nat.le_of_ble_eq_true rfl) dX12_act_325 ?_
    refine jr_bind (fun q57 e58 => ?_)
    refine jr_callVV C FX_10 km_X12_460 oS_0.1 oS_0.2 (rk hR rfl) (c_Mo_told (gl G) 3 q55 s e58) rfl rfl rfl (Nat.le_of_ble_eq_true rfl) dX12_act_328 ?_
    refine jr_lv [0, 2] rfl ?_
    exact t_Mo_act_J331 G hR hL C  v2 q57 hr
  refine jo_cases (fun h59 => ?_) (fun h59 => ?_)
  · refine jr_tabIn C dX12_act_1 h59 (by decide) (by decide) rfl (tgt := 406) (by decide) ?_
    refine jr_aload_n C 0 rfl rfl dX12_act_406 ?_
    refine jr_iload_n C 2 rfl rfl dX12_act_407 ?_
    refine jr_bind (fun q60 e61 => ?_)
    refine jr_callVV C FX_10 km_X12_552 oS_0.1 oS_0.2 (rk hR rfl) (c_Mo_marked (gl G) v2 s e61) rfl rfl rfl (Nat.le_of_ble_eq_true rfl) dX12_act_408 ?_
    exact jr_end (fun h => hr q60 h _ _ dX12_act_411)
  refine jr_tabOut C dX12_act_1 (by have e0 := lv_neT h1 (a := 35) (by decide); have e1 := lv_neT h3 (a := 36) (by decide); have e2 := lv_neT h6 (a := 37) (by decide); have e3 := lv_neT h11 (a := 38) (by decide); have e4 := lv_neT h13 (a := 39) (by decide); have e5 := lv_neT h16 (a := 40) (by decide); have e6 := lv_neT h19 (a := 41) (by decide); have e7 := lv_neT h23 (a := 42) (by decide); have e8 := lv_neT h24 (a := 43) (by decide); have e9 := lv_neT h27 (a := 44) (by decide); have e10 := lv_neT h30 (a := 45) (by decide); have e11 := lv_neT h33 (a := 46) (by decide); have e12 := lv_neT h36 (a := 47) (by decide); have e13 := lv_neT h42 (a := 48) (by decide); have e14 := lv_neT h59 (a := 49) (by decide); omega) (tgt := 412) (by decide) ?_
  refine jr_aload_n C 0 rfl rfl dX12_act_412 ?_
  refine jr_iload_n C 2 rfl rfl dX12_act_413 ?_
  refine jr_bind (fun q62 e63 => ?_)
  refine jr_callVV C FX_10 km_X12_555 oS_0.1 oS_0.2 (rk hR rfl) (c_Mo_look (gl G) v2 s e63) rfl rfl rfl (Nat.le_of_ble_eq_true rfl) dX12_act_414 ?_
  exact jr_end (fun h => hr q62 h _ _ dX12_act_417)
set_option maxRecDepth 100000 in
theorem c_Mo_act (l : Launch)  (v1 : Int32) (v2 : Int32) (s : St) {q : St} (h : f_Mo_act v1 v2 s = some q) : CT SM l yX12_act cX12_act 4 none 5 118 (fun a => [.ref (a 0), .int v1, .int v2]) s q (fun _ => none) :=
  ct_V okX_M (by decide) (fun _ => Nat.le_of_ble_eq_true rfl) (fun G hl hR hL C hr => t_Mo_act G hR hL C (Acc := fun v => v = q)  v1 v2 s (fun v hv => by rw [hv]; exact hr) ⟨_, h, rfl⟩)
noncomputable def f_Mo_step_J151  (s : St) : Option St :=
  gd (s.1 0 28) 2 <|
  if (s.1 21 ((s.1 0 28) : Int32).toNatClampNeg) ≤ 0 then
  (gd (s.1 0 28) 2 <|
  if (s.1 20 ((s.1 0 28) : Int32).toNatClampNeg) < (s.1 0 16) then
  some s
  else
  gd (s.1 0 28) 2 <|
  lt (uI s 21 ((s.1 0 28) : Int32).toNatClampNeg 1) fun s11 =>
  some s11)
  else
  gd (s.1 0 28) 2 <|
  lt (uI s 20 ((s.1 0 28) : Int32).toNatClampNeg (s.1 0 69)) fun s12 =>
  some s12
set_option maxHeartbeats 4000000 in
set_option maxRecDepth 100000 in
theorem t_Mo_step_J151 (G : GG) (hR : gR G = rmx 6 141) (hL : gL G = 3) (C : Cx SM G cX12_step RX12) {Acc : St → Prop}   (s : St) (hr : ∀ v : St, Acc v → RtV SM G cX12_step v) : JJ SM G Acc (f_Mo_step_J151 s) 151 [(0, .ref (ad G 0))] [] s := by
  unfold f_Mo_step_J151
  refine jr_aload_n C 0 rfl rfl dX12_step_151 ?_
  refine jr_getR C FX_10 38 oS_0.1 oS_0.2 ff_10_38.1 ff_10_38.2 rfl fl_X12_79 dX12_step_152 ?_
  refine jr_aload_n C 0 rfl rfl dX12_step_155 ?_
  refine jr_getI C FX_10 28 oS_0.1 oS_0.2 ff_10_28.1 ff_10_28.2 fl_X12_394 dX12_step_156 ?_
  refine jr_iald C oS_21.1 oS_21.2.1 oS_21.2.2 dX12_step_159 ?_
  refine jr_if_le C (tgt := 179) dX12_step_160 (by decide) (fun h9 => ?_) (fun h9 => ?_)
  · refine jo_pos h9 ?_
    refine jr_aload_n C 0 rfl rfl dX12_step_179 ?_
    refine jr_getR C FX_10 37 oS_0.1 oS_0.2 ff_10_37.1 ff_10_37.2 rfl fl_X12_76 dX12_step_180 ?_
    refine jr_aload_n C 0 rfl rfl dX12_step_183 ?_
    refine jr_getI C FX_10 28 oS_0.1 oS_0.2 ff_10_28.1 ff_10_28.2 fl_X12_394 dX12_step_184 ?_
    refine jr_iald C oS_20.1 oS_20.2.1 oS_20.2.2 dX12_step_187 ?_
    refine jr_aload_n C 0 rfl rfl dX12_step_188 ?_
    refine jr_getI C FX_10 16 oS_0.1 oS_0.2 ff_10_16.1 ff_10_16.2 fl_X12_377 dX12_step_189 ?_
    refine jr_icmp_lt C (tgt := 205) dX12_step_192 (by decide) (fun h10 => ?_) (fun h10 => ?_)
    · refine jo_pos h10 ?_
      exact jr_end (fun h => hr s h _ _ dX12_step_205)
    refine jo_neg h10 ?_
    refine jr_aload_n C 0 rfl rfl dX12_step_195 ?_
    refine jr_getR C FX_10 38 oS_0.1 oS_0.2 ff_10_38.1 ff_10_38.2 rfl fl_X12_79 dX12_step_196 ?_
    refine jr_aload_n C 0 rfl rfl dX12_step_199 ?_
    refine jr_getI C FX_10 28 oS_0.1 oS_0.2 ff_10_28.1 ff_10_28.2 fl_X12_394 dX12_step_200 ?_
    refine jr_iconst C ic_1 dX12_step_203 ?_
    refine jr_iast C oS_21.1 oS_21.2.1 oS_21.2.2 dX12_step_204 (jr_ltS fun s11 => ?_)
    exact jr_end (fun h => hr s11 h _ _ dX12_step_205)
  refine jo_neg h9 ?_
  refine jr_aload_n C 0 rfl rfl dX12_step_163 ?_
  refine jr_getR C FX_10 37 oS_0.1 oS_0.2 ff_10_37.1 ff_10_37.2 rfl fl_X12_76 dX12_step_164 ?_
  refine jr_aload_n C 0 rfl rfl dX12_step_167 ?_
  refine jr_getI C FX_10 28 oS_0.1 oS_0.2 ff_10_28.1 ff_10_28.2 fl_X12_394 dX12_step_168 ?_
  refine jr_aload_n C 0 rfl rfl dX12_step_171 ?_
  refine jr_getI C FX_10 69 oS_0.1 oS_0.2 ff_10_69.1 ff_10_69.2 fl_X12_420 dX12_step_172 ?_
  refine jr_iast C oS_20.1 oS_20.2.1 oS_20.2.2 dX12_step_175 (jr_ltS fun s12 => ?_)
  refine jr_goto C (tgt := 205) dX12_step_176 (by decide) ?_
  exact jr_end (fun h => hr s12 h _ _ dX12_step_205)
noncomputable def f_Mo_step_J91 (v1 : Int32) (v2 : Int32) (s : St) : Option St :=
  (f_Mo_single v1 v2 s).bind fun q7 =>
  f_Mo_step_J151 q7
set_option maxHeartbeats 4000000 in
set_option maxRecDepth 100000 in
theorem t_Mo_step_J91 (G : GG) (hR : gR G = rmx 6 141) (hL : gL G = 3) (C : Cx SM G cX12_step RX12) {Acc : St → Prop}  (v1 : Int32) (v2 : Int32) (s : St) (hr : ∀ v : St, Acc v → RtV SM G cX12_step v) : JJ SM G Acc (f_Mo_step_J91 v1 v2 s) 91 [(0, .ref (ad G 0)), (1, .int v1), (2, .int v2)] [] s := by
  unfold f_Mo_step_J91
  refine jr_aload_n C 0 rfl rfl dX12_step_91 ?_
  refine jr_iload_n C 1 rfl rfl dX12_step_92 ?_
  refine jr_iload_n C 2 rfl rfl dX12_step_93 ?_
  refine jr_bind (fun q7 e8 => ?_)
  refine jr_callVV C FX_10 km_X12_512 oS_0.1 oS_0.2 (rk hR rfl) (c_Mo_single (gl G) v1 v2 s e8) rfl rfl rfl (Nat.le_of_ble_eq_true rfl) dX12_step_94 ?_
  refine jr_goto C (tgt := 151) dX12_step_97 (by decide) ?_
  refine jr_lv [0] rfl ?_
  exact t_Mo_step_J151 G hR hL C   q7 hr
noncomputable def f_Mo_step  (s : St) : Option St :=
  gd (s.1 0 28) 2 <|
  lt (uI s 0 69 (s.1 20 ((s.1 0 28) : Int32).toNatClampNeg)) fun s1 =>
  gd (s1.1 0 28) 2 <|
  gd (s1.1 0 28) 2 <|
  lt (uI s1 22 ((s1.1 0 28) : Int32).toNatClampNeg ((s1.1 22 ((s1.1 0 28) : Int32).toNatClampNeg) + 1)) fun s2 =>
  gd (s2.1 0 28) 2 <|
  gd (s2.1 0 28) 2 <|
  lt (uI s2 20 ((s2.1 0 28) : Int32).toNatClampNeg ((s2.1 20 ((s2.1 0 28) : Int32).toNatClampNeg) + 1)) fun s3 =>
  gd ((200 * (s3.1 0 14)) + (s3.1 0 69)) 400 <|
  lt (s3.1 3 (((200 * (s3.1 0 14)) + (s3.1 0 69)) : Int32).toNatClampNeg) fun x4 =>
  lt ((600 * (s3.1 0 14)) + (3 * (s3.1 0 69))) fun x5 =>
  if x4 < 4 then
  f_Mo_step_J91 x4 x5 s3
  else
  if x4 = 19 then
  f_Mo_step_J91 x4 x5 s3
  else
  if x4 = 20 then
  f_Mo_step_J91 x4 x5 s3
  else
  if 19 ≤ x4 then
  (if 29 ≤ x4 then
  (if 35 ≤ x4 then
  ((f_Mo_act x4 x5 s3).bind fun q18 =>
  f_Mo_step_J151 q18)
  else
  (f_Mo_branch x4 x5 s3).bind fun q20 =>
  f_Mo_step_J151 q20)
  else
  (f_Mo_reach x4 x5 s3).bind fun q22 =>
  f_Mo_step_J151 q22)
  else
  (f_Mo_reckon x4 x5 s3).bind fun q24 =>
  f_Mo_step_J151 q24
set_option maxHeartbeats 4000000 in
set_option maxRecDepth 100000 in
theorem t_Mo_step (G : GG) (hR : gR G = rmx 6 141) (hL : gL G = 3) (C : Cx SM G cX12_step RX12) {Acc : St → Prop}   (s : St) (hr : ∀ v : St, Acc v → RtV SM G cX12_step v) : JJ SM G Acc (f_Mo_step s) 0 [(0, .ref (ad G 0))] [] s := by
  unfold f_Mo_step
  refine jr_aload_n C 0 rfl rfl dX12_step_0 ?_
  refine jr_aload_n C 0 rfl rfl dX12_step_1 ?_
  refine jr_getR C FX_10 37 oS_0.1 oS_0.2 ff_10_37.1 ff_10_37.2 rfl fl_X12_76 dX12_step_2 ?_
  refine jr_aload_n C 0 rfl rfl dX12_step_5 ?_
  refine jr_getI C FX_10 28 oS_0.1 oS_0.2 ff_10_28.1 ff_10_28.2 fl_X12_394 dX12_step_6 ?_
  refine jr_iald C oS_20.1 oS_20.2.1 oS_20.2.2 dX12_step_9 ?_
  refine jr_putI C FX_10 69 oS_0.1 oS_0.2 ff_10_69.1 ff_10_69.2 rfl rfl fl_X12_420 dX12_step_10 (jr_ltS fun s1 => ?_)
  refine jr_aload_n C 0 rfl rfl dX12_step_13 ?_
  refine jr_getR C FX_10 39 oS_0.1 oS_0.2 ff_10_39.1 ff_10_39.2 rfl fl_X12_82 dX12_step_14 ?_
  refine jr_aload_n C 0 rfl rfl dX12_step_17 ?_
  refine jr_getI C FX_10 28 oS_0.1 oS_0.2 ff_10_28.1 ff_10_28.2 fl_X12_394 dX12_step_18 ?_
  refine jr_dup2 C rfl rfl dX12_step_21 ?_
  refine jr_iald C oS_22.1 oS_22.2.1 oS_22.2.2 dX12_step_22 ?_
  refine jr_iconst C ic_1 dX12_step_23 ?_
  refine jr_iadd C dX12_step_24 ?_
  refine jr_iast C oS_22.1 oS_22.2.1 oS_22.2.2 dX12_step_25 (jr_ltS fun s2 => ?_)
  refine jr_aload_n C 0 rfl rfl dX12_step_26 ?_
  refine jr_getR C FX_10 37 oS_0.1 oS_0.2 ff_10_37.1 ff_10_37.2 rfl fl_X12_76 dX12_step_27 ?_
  refine jr_aload_n C 0 rfl rfl dX12_step_30 ?_
  refine jr_getI C FX_10 28 oS_0.1 oS_0.2 ff_10_28.1 ff_10_28.2 fl_X12_394 dX12_step_31 ?_
  refine jr_dup2 C rfl rfl dX12_step_34 ?_
  refine jr_iald C oS_20.1 oS_20.2.1 oS_20.2.2 dX12_step_35 ?_
  refine jr_iconst C ic_1 dX12_step_36 ?_
  refine jr_iadd C dX12_step_37 ?_
  refine jr_iast C oS_20.1 oS_20.2.1 oS_20.2.2 dX12_step_38 (jr_ltS fun s3 => ?_)
  refine jr_aload_n C 0 rfl rfl dX12_step_39 ?_
  refine jr_getR C FX_10 4 oS_0.1 oS_0.2 ff_10_4.1 ff_10_4.2 rfl fl_X12_16 dX12_step_40 ?_
  refine jr_sipush C sp_200 dX12_step_43 ?_
  refine jr_aload_n C 0 rfl rfl dX12_step_46 ?_
  refine jr_getI C FX_10 14 oS_0.1 oS_0.2 ff_10_14.1 ff_10_14.2 fl_X12_355 dX12_step_47 ?_
  refine jr_imul C dX12_step_50 ?_
  refine jr_aload_n C 0 rfl rfl dX12_step_51 ?_
  refine jr_getI C FX_10 69 oS_0.1 oS_0.2 ff_10_69.1 ff_10_69.2 fl_X12_420 dX12_step_52 ?_
  refine jr_iadd C dX12_step_55 ?_
  refine jr_iald C oS_3.1 oS_3.2.1 oS_3.2.2 dX12_step_56 ?_
  refine jr_ltI (fun x4 => ?_)
  refine jr_istore_n C (lv' := [(1, .int x4), (0, .ref (ad G 0))]) (ltL hL rfl) rfl rfl dX12_step_57 ?_
  refine jr_sipush C sp_600 dX12_step_58 ?_
  refine jr_aload_n C 1 rfl rfl dX12_step_61 ?_
  refine jr_getI C FX_10 14 oS_0.1 oS_0.2 ff_10_14.1 ff_10_14.2 fl_X12_355 dX12_step_62 ?_
  refine jr_imul C dX12_step_65 ?_
  refine jr_iconst C ic_3 dX12_step_66 ?_
  refine jr_aload_n C 1 rfl rfl dX12_step_67 ?_
  refine jr_getI C FX_10 69 oS_0.1 oS_0.2 ff_10_69.1 ff_10_69.2 fl_X12_420 dX12_step_68 ?_
  refine jr_imul C dX12_step_71 ?_
  refine jr_iadd C dX12_step_72 ?_
  refine jr_ltI (fun x5 => ?_)
  refine jr_istore_n C (lv' := [(2, .int x5), (1, .int x4), (0, .ref (ad G 0))]) (ltL hL rfl) rfl rfl dX12_step_73 ?_
  refine jr_iload_n C 1 rfl rfl dX12_step_74 ?_
  refine jr_iconst C ic_4 dX12_step_75 ?_
  refine jr_icmp_lt C (tgt := 91) dX12_step_76 (by decide) (fun h6 => ?_) (fun h6 => ?_)
  · refine jo_pos h6 ?_
    refine jr_lv [2, 1, 0] rfl ?_
    exact t_Mo_step_J91 G hR hL C  x4 x5 s3 hr
  refine jo_neg h6 ?_
  refine jr_iload_n C 1 rfl rfl dX12_step_79 ?_
  refine jr_bipush C bp_19 dX12_step_80 ?_
  refine jr_icmp_eq C (tgt := 91) dX12_step_82 (by decide) (fun h13 => ?_) (fun h13 => ?_)
  · refine jo_pos h13 ?_
    refine jr_lv [2, 1, 0] rfl ?_
    exact t_Mo_step_J91 G hR hL C  x4 x5 s3 hr
  refine jo_neg h13 ?_
  refine jr_iload_n C 1 rfl rfl dX12_step_85 ?_
  refine jr_bipush C bp_20 dX12_step_86 ?_
  refine jr_icmp_ne C (tgt := 100) dX12_step_88 (by decide) (fun h14 => ?_) (fun h14 => ?_)
  · refine jo_neg h14 ?_
    refine jr_iload_n C 1 rfl rfl dX12_step_100 ?_
    refine jr_bipush C bp_19 dX12_step_101 ?_
    refine jr_icmp_ge C (tgt := 115) dX12_step_103 (by decide) (fun h15 => ?_) (fun h15 => ?_)
    · refine jo_pos h15 ?_
      refine jr_iload_n C 1 rfl rfl dX12_step_115 ?_
      refine jr_bipush C bp_29 dX12_step_116 ?_
      refine jr_icmp_ge C (tgt := 130) dX12_step_118 (by decide) (fun h16 => ?_) (fun h16 => ?_)
      · refine jo_pos h16 ?_
        refine jr_iload_n C 1 rfl rfl dX12_step_130 ?_
        refine jr_bipush C bp_35 dX12_step_131 ?_
        refine jr_icmp_ge C (tgt := 145) dX12_step_133 (by decide) (fun h17 => ?_) (fun h17 => ?_)
        · refine jo_pos h17 ?_
          refine jr_aload_n C 2 rfl rfl dX12_step_145 ?_
          refine jr_iload_n C 1 rfl rfl dX12_step_146 ?_
          refine jr_iload_n C 0 rfl rfl dX12_step_147 ?_
          refine jr_bind (fun q18 e19 => ?_)
          refine jr_callVV C FX_10 km_X12_524 oS_0.1 oS_0.2 (rk hR rfl) (c_Mo_act (gl G) x4 x5 s3 e19) rfl rfl rfl (Nat.le_of_ble_eq_true rfl) dX12_step_148 ?_
          refine jr_lv [2] rfl ?_
          exact t_Mo_step_J151 G hR hL C   q18 hr
        refine jo_neg h17 ?_
        refine jr_aload_n C 2 rfl rfl dX12_step_136 ?_
        refine jr_iload_n C 1 rfl rfl dX12_step_137 ?_
        refine jr_iload_n C 0 rfl rfl dX12_step_138 ?_
        refine jr_bind (fun q20 e21 => ?_)
        refine jr_callVV C FX_10 km_X12_521 oS_0.1 oS_0.2 (rk hR rfl) (c_Mo_branch (gl G) x4 x5 s3 e21) rfl rfl rfl (Nat.le_of_ble_eq_true rfl) dX12_step_139 ?_
        refine jr_goto C (tgt := 151) dX12_step_142 (by decide) ?_
        refine jr_lv [2] rfl ?_
        exact t_Mo_step_J151 G hR hL C   q20 hr
      refine jo_neg h16 ?_
      refine jr_aload_n C 2 rfl rfl dX12_step_121 ?_
      refine jr_iload_n C 1 rfl rfl dX12_step_122 ?_
      refine jr_iload_n C 0 rfl rfl dX12_step_123 ?_
      refine jr_bind (fun q22 e23 => ?_)
      refine jr_callVV C FX_10 km_X12_518 oS_0.1 oS_0.2 (rk hR rfl) (c_Mo_reach (gl G) x4 x5 s3 e23) rfl rfl rfl (Nat.le_of_ble_eq_true rfl) dX12_step_124 ?_
      refine jr_goto C (tgt := 151) dX12_step_127 (by decide) ?_
      refine jr_lv [2] rfl ?_
      exact t_Mo_step_J151 G hR hL C   q22 hr
    refine jo_neg h15 ?_
    refine jr_aload_n C 2 rfl rfl dX12_step_106 ?_
    refine jr_iload_n C 1 rfl rfl dX12_step_107 ?_
    refine jr_iload_n C 0 rfl rfl dX12_step_108 ?_
    refine jr_bind (fun q24 e25 => ?_)
    refine jr_callVV C FX_10 km_X12_515 oS_0.1 oS_0.2 (rk hR rfl) (c_Mo_reckon (gl G) x4 x5 s3 e25) rfl rfl rfl (Nat.le_of_ble_eq_true rfl) dX12_step_109 ?_
    refine jr_goto C (tgt := 151) dX12_step_112 (by decide) ?_
    refine jr_lv [2] rfl ?_
    exact t_Mo_step_J151 G hR hL C   q24 hr
  refine jo_pos h14 ?_
  refine jr_lv [2, 1, 0] rfl ?_
  exact t_Mo_step_J91 G hR hL C  x4 x5 s3 hr
set_option maxRecDepth 100000 in
theorem c_Mo_step (l : Launch)   (s : St) {q : St} (h : f_Mo_step s = some q) : CT SM l yX12_step cX12_step 3 none 6 141 (fun a => [.ref (a 0)]) s q (fun _ => none) :=
  ct_V okX_M (by decide) (fun _ => Nat.le_of_ble_eq_true rfl) (fun G hl hR hL C hr => t_Mo_step G hR hL C (Acc := fun v => v = q)   s (fun v hv => by rw [hv]; exact hr) ⟨_, h, rfl⟩)
noncomputable def f_Mo_go_L10 (v1 : Int32) (v2 : Int32) (s : St) : Option (St ⊕ St) :=
  gd (s.1 0 28) 2 <|
  if (s.1 21 ((s.1 0 28) : Int32).toNatClampNeg) = 0 then
  (gd (s.1 0 28) 2 <|
  if v1 ≤ ((s.1 22 ((s.1 0 28) : Int32).toNatClampNeg) - v2) then
  some (.inr s)
  else
  (f_Mo_step s).bind fun q4 =>
  some (.inl q4))
  else
  some (.inr s)
set_option maxHeartbeats 4000000 in
set_option maxRecDepth 100000 in
theorem t_Mo_go_L10 (G : GG) (hR : gR G = rmx 7 163) (hL : gL G = 3) (C : Cx SM G cX12_go RX12) {Acc : (St ⊕ St) → Prop}  (v1 : Int32) (v2 : Int32) (s : St) (hb1 : ∀  (t : St), Acc (.inl t) → KK SM G 10 [(0, .ref (ad G 0)), (1, .int v1), (2, .int v2)] [] t) (hx1 : ∀  (t : St), Acc (.inr t) → KK SM G 44 [(0, .ref (ad G 0)), (1, .int v1), (2, .int v2)] [] t) : JJ SM G Acc (f_Mo_go_L10 v1 v2 s) 10 [(0, .ref (ad G 0)), (1, .int v1), (2, .int v2)] [] s := by
  unfold f_Mo_go_L10
  refine jr_aload_n C 0 rfl rfl dX12_go_10 ?_
  refine jr_getR C FX_10 38 oS_0.1 oS_0.2 ff_10_38.1 ff_10_38.2 rfl fl_X12_79 dX12_go_11 ?_
  refine jr_aload_n C 0 rfl rfl dX12_go_14 ?_
  refine jr_getI C FX_10 28 oS_0.1 oS_0.2 ff_10_28.1 ff_10_28.2 fl_X12_394 dX12_go_15 ?_
  refine jr_iald C oS_21.1 oS_21.2.1 oS_21.2.2 dX12_go_18 ?_
  refine jr_if_ne C (tgt := 44) dX12_go_19 (by decide) (fun h2 => ?_) (fun h2 => ?_)
  · refine jo_neg h2 ?_
    exact jr_end (fun h => hx1 s h)
  refine jo_pos h2 ?_
  refine jr_aload_n C 0 rfl rfl dX12_go_22 ?_
  refine jr_getR C FX_10 39 oS_0.1 oS_0.2 ff_10_39.1 ff_10_39.2 rfl fl_X12_82 dX12_go_23 ?_
  refine jr_aload_n C 0 rfl rfl dX12_go_26 ?_
  refine jr_getI C FX_10 28 oS_0.1 oS_0.2 ff_10_28.1 ff_10_28.2 fl_X12_394 dX12_go_27 ?_
  refine jr_iald C oS_22.1 oS_22.2.1 oS_22.2.2 dX12_go_30 ?_
  refine jr_iload_n C 2 rfl rfl dX12_go_31 ?_
  refine jr_isub C dX12_go_32 ?_
  refine jr_iload_n C 1 rfl rfl dX12_go_33 ?_
  refine jr_icmp_ge C (tgt := 44) dX12_go_34 (by decide) (fun h3 => ?_) (fun h3 => ?_)
  · refine jo_pos h3 ?_
    exact jr_end (fun h => hx1 s h)
  refine jo_neg h3 ?_
  refine jr_aload_n C 0 rfl rfl dX12_go_37 ?_
  refine jr_bind (fun q4 e5 => ?_)
  refine jr_callVV C FX_10 km_X12_565 oS_0.1 oS_0.2 (rk hR rfl) (c_Mo_step (gl G) s e5) rfl rfl rfl (Nat.le_of_ble_eq_true rfl) dX12_go_38 ?_
  refine jr_goto C (tgt := 10) dX12_go_41 (by decide) ?_
  exact jr_end (fun h => hb1 q4 h)
noncomputable def f_Mo_go (v1 : Int32) (s : St) : Option (Int32 × St) :=
  gd (s.1 0 28) 2 <|
  lt (s.1 22 ((s.1 0 28) : Int32).toNatClampNeg) fun x1 =>
  (wh (fun a : St => f_Mo_go_L10 v1 x1 a) s).bind (fun b6 =>
  gd (b6.1 0 28) 2 <|
  some (((b6.1 22 ((b6.1 0 28) : Int32).toNatClampNeg) - x1), b6))
set_option maxHeartbeats 4000000 in
set_option maxRecDepth 100000 in
theorem t_Mo_go (G : GG) (hR : gR G = rmx 7 163) (hL : gL G = 3) (C : Cx SM G cX12_go RX12) {Acc : (Int32 × St) → Prop}  (v1 : Int32) (s : St) (hr : ∀ v : (Int32 × St), Acc v → RtI SM G cX12_go v.1 v.2) : JJ SM G Acc (f_Mo_go v1 s) 0 [(0, .ref (ad G 0)), (1, .int v1)] [] s := by
  unfold f_Mo_go
  refine jr_aload_n C 0 rfl rfl dX12_go_0 ?_
  refine jr_getR C FX_10 39 oS_0.1 oS_0.2 ff_10_39.1 ff_10_39.2 rfl fl_X12_82 dX12_go_1 ?_
  refine jr_aload_n C 0 rfl rfl dX12_go_4 ?_
  refine jr_getI C FX_10 28 oS_0.1 oS_0.2 ff_10_28.1 ff_10_28.2 fl_X12_394 dX12_go_5 ?_
  refine jr_iald C oS_22.1 oS_22.2.1 oS_22.2.2 dX12_go_8 ?_
  refine jr_ltI (fun x1 => ?_)
  refine jr_istore_n C (lv' := [(2, .int x1), (0, .ref (ad G 0)), (1, .int v1)]) (ltL hL rfl) rfl rfl dX12_go_9 ?_
  refine jr_lv [1, 2, 0] rfl ?_
  refine jr_loopB (pc := 10) (pcx := 44) (f := fun a : St => f_Mo_go_L10 v1 x1 a) (fun a : St => [(0, .ref (ad G 0)), (1, .int v1), (2, .int x1)]) (fun a : St => a) s (fun a => t_Mo_go_L10 G hR hL C  v1 x1 a (fun _ h => h) (fun _ h => h)) (fun b6 => ?_)
  refine jr_aload_n C 0 rfl rfl dX12_go_44 ?_
  refine jr_getR C FX_10 39 oS_0.1 oS_0.2 ff_10_39.1 ff_10_39.2 rfl fl_X12_82 dX12_go_45 ?_
  refine jr_aload_n C 0 rfl rfl dX12_go_48 ?_
  refine jr_getI C FX_10 28 oS_0.1 oS_0.2 ff_10_28.1 ff_10_28.2 fl_X12_394 dX12_go_49 ?_
  refine jr_iald C oS_22.1 oS_22.2.1 oS_22.2.2 dX12_go_52 ?_
  refine jr_iload_n C 2 rfl rfl dX12_go_53 ?_
  refine jr_isub C dX12_go_54 ?_
  exact jr_end (fun h => hr (((b6.1 22 ((b6.1 0 28) : Int32).toNatClampNeg) - x1), b6) h _ _ dX12_go_55)
set_option maxRecDepth 100000 in
theorem c_Mo_go (l : Launch)  (v1 : Int32) (s : St) {q : (Int32 × St)} (h : f_Mo_go v1 s = some q) : CT SM l yX12_go cX12_go 3 (some .int) 7 163 (fun a => [.ref (a 0), .int v1]) s q.2 (fun _ => some (.int q.1)) :=
  ct_I okX_M (by decide) (fun _ => Nat.le_of_ble_eq_true rfl) (fun G hl hR hL C hr => t_Mo_go G hR hL C (Acc := fun v => v = q)  v1 s (fun v hv => by rw [hv]; exact hr) ⟨_, h, rfl⟩)
noncomputable def f_Mo_spend_J25 (w0 : Int32) (s : St) : Option (Int32 × St) :=
  (f_Mo_go w0 s).bind fun q2 =>
  lt (q2.1) fun x4 =>
  lt (uI (q2.2) 0 73 ((q2.2.1 0 73) + x4)) fun s5 =>
  some (x4, s5)
set_option maxHeartbeats 4000000 in
set_option maxRecDepth 100000 in
theorem t_Mo_spend_J25 (G : GG) (hR : gR G = rmx 8 185) (hL : gL G = 3) (C : Cx SM G cX12_spend RX12) {Acc : (Int32 × St) → Prop}  (w0 : Int32) (s : St) (hr : ∀ v : (Int32 × St), Acc v → RtI SM G cX12_spend v.1 v.2) : JJ SM G Acc (f_Mo_spend_J25 w0 s) 25 [(0, .ref (ad G 0))] [.int w0, .ref (ad G 0)] s := by
  unfold f_Mo_spend_J25
  refine jr_bind (fun q2 e3 => ?_)
  refine jr_callVI C FX_10 km_X12_562 oS_0.1 oS_0.2 (rk hR rfl) (c_Mo_go (gl G) w0 s e3) rfl rfl rfl (Nat.le_of_ble_eq_true rfl) dX12_spend_25 ?_
  refine jr_ltI (fun x4 => ?_)
  refine jr_istore_n C (lv' := [(2, .int x4), (0, .ref (ad G 0))]) (ltL hL rfl) rfl rfl dX12_spend_28 ?_
  refine jr_aload_n C 1 rfl rfl dX12_spend_29 ?_
  refine jr_dup C rfl dX12_spend_30 ?_
  refine jr_getI C FX_10 73 oS_0.1 oS_0.2 ff_10_73.1 ff_10_73.2 fl_X12_559 dX12_spend_31 ?_
  refine jr_iload_n C 0 rfl rfl dX12_spend_34 ?_
  refine jr_iadd C dX12_spend_35 ?_
  refine jr_putI C FX_10 73 oS_0.1 oS_0.2 ff_10_73.1 ff_10_73.2 rfl rfl fl_X12_559 dX12_spend_36 (jr_ltS fun s5 => ?_)
  refine jr_iload_n C 0 rfl rfl dX12_spend_39 ?_
  exact jr_end (fun h => hr (x4, s5) h _ _ dX12_spend_40)
noncomputable def f_Mo_spend (v1 : Int32) (s : St) : Option (Int32 × St) :=
  if (200000 - (s.1 0 73)) ≤ v1 then
  f_Mo_spend_J25 (200000 - (s.1 0 73)) s
  else
  f_Mo_spend_J25 v1 s
set_option maxHeartbeats 4000000 in
set_option maxRecDepth 100000 in
theorem t_Mo_spend (G : GG) (hR : gR G = rmx 8 185) (hL : gL G = 3) (C : Cx SM G cX12_spend RX12) {Acc : (Int32 × St) → Prop}  (v1 : Int32) (s : St) (hr : ∀ v : (Int32 × St), Acc v → RtI SM G cX12_spend v.1 v.2) : JJ SM G Acc (f_Mo_spend v1 s) 0 [(0, .ref (ad G 0)), (1, .int v1)] [] s := by
  unfold f_Mo_spend
  refine jr_aload_n C 0 rfl rfl dX12_spend_0 ?_
  refine jr_iload_n C 1 rfl rfl dX12_spend_1 ?_
  refine jr_ldcw C kc_X12_558 dX12_spend_2 ?_
  refine jr_aload_n C 0 rfl rfl dX12_spend_5 ?_
  refine jr_getI C FX_10 73 oS_0.1 oS_0.2 ff_10_73.1 ff_10_73.2 fl_X12_559 dX12_spend_6 ?_
  refine jr_isub C dX12_spend_9 ?_
  refine jr_icmp_ge C (tgt := 17) dX12_spend_10 (by decide) (fun h1 => ?_) (fun h1 => ?_)
  · refine jo_pos h1 ?_
    refine jr_ldcw C kc_X12_558 dX12_spend_17 ?_
    refine jr_aload_n C 0 rfl rfl dX12_spend_20 ?_
    refine jr_getI C FX_10 73 oS_0.1 oS_0.2 ff_10_73.1 ff_10_73.2 fl_X12_559 dX12_spend_21 ?_
    refine jr_isub C dX12_spend_24 ?_
    refine jr_lv [0] rfl ?_
    exact t_Mo_spend_J25 G hR hL C  (200000 - (s.1 0 73)) s hr
  refine jo_neg h1 ?_
  refine jr_iload_n C 1 rfl rfl dX12_spend_13 ?_
  refine jr_goto C (tgt := 25) dX12_spend_14 (by decide) ?_
  refine jr_lv [0] rfl ?_
  exact t_Mo_spend_J25 G hR hL C  v1 s hr
set_option maxRecDepth 100000 in
theorem c_Mo_spend (l : Launch)  (v1 : Int32) (s : St) {q : (Int32 × St)} (h : f_Mo_spend v1 s = some q) : CT SM l yX12_spend cX12_spend 3 (some .int) 8 185 (fun a => [.ref (a 0), .int v1]) s q.2 (fun _ => some (.int q.1)) :=
  ct_I okX_M (by decide) (fun _ => Nat.le_of_ble_eq_true rfl) (fun G hl hR hL C hr => t_Mo_spend G hR hL C (Acc := fun v => v = q)  v1 s (fun v hv => by rw [hv]; exact hr) ⟨_, h, rfl⟩)
noncomputable def f_Mo_isPointer_J40_1 (v1 : Int32) (v3 : Int32) (w0 : Int32) (s : St) : Option ((Int32 × Int32) ⊕ (Int32 × Int32)) :=
  some (.inl (w0, (v3 + 1)))
set_option maxHeartbeats 4000000 in
set_option maxRecDepth 100000 in
theorem t_Mo_isPointer_J40_1 (G : GG) (hR : gR G = rmx 0 0) (hL : gL G = 4) (C : Cx SM G cX12_isPointer RX12) {Acc : ((Int32 × Int32) ⊕ (Int32 × Int32)) → Prop}  (v1 : Int32) (v3 : Int32) (w0 : Int32) (s : St) (hb1 : ∀ (a2 : Int32) (a3 : Int32), Acc (.inl (a2, a3)) → KK SM G 4 [(0, .ref (ad G 0)), (1, .int v1), (2, .int a2), (3, .int a3)] [] s) (hx1 : ∀ (a2 : Int32) (a3 : Int32), Acc (.inr (a2, a3)) → KK SM G 47 [(0, .ref (ad G 0)), (1, .int v1), (2, .int a2), (3, .int a3)] [] s) : JJ SM G Acc (f_Mo_isPointer_J40_1 v1 v3 w0 s) 40 [(0, .ref (ad G 0)), (1, .int v1), (3, .int v3)] [.int w0] s := by
  unfold f_Mo_isPointer_J40_1
  refine jr_istore_n C (lv' := [(2, .int w0), (0, .ref (ad G 0)), (1, .int v1), (3, .int v3)]) (ltL hL rfl) rfl rfl dX12_isPointer_40 ?_
  refine jr_iinc C 3 rfl ii_1 (lv' := [(3, .int (v3 + 1)), (2, .int w0), (0, .ref (ad G 0)), (1, .int v1)]) (ltL hL rfl) rfl dX12_isPointer_41 ?_
  refine jr_goto C (tgt := 4) dX12_isPointer_44 (by decide) ?_
  refine jr_lv [2, 3, 1, 0] rfl ?_
  exact jr_end (fun h => hb1 w0 (v3 + 1) h)
noncomputable def f_Mo_isPointer_J39_1 (v1 : Int32) (v3 : Int32) (s : St) : Option ((Int32 × Int32) ⊕ (Int32 × Int32)) :=
  f_Mo_isPointer_J40_1 v1 v3 0 s
set_option maxHeartbeats 4000000 in
set_option maxRecDepth 100000 in
theorem t_Mo_isPointer_J39_1 (G : GG) (hR : gR G = rmx 0 0) (hL : gL G = 4) (C : Cx SM G cX12_isPointer RX12) {Acc : ((Int32 × Int32) ⊕ (Int32 × Int32)) → Prop}  (v1 : Int32) (v3 : Int32) (s : St) (hb1 : ∀ (a2 : Int32) (a3 : Int32), Acc (.inl (a2, a3)) → KK SM G 4 [(0, .ref (ad G 0)), (1, .int v1), (2, .int a2), (3, .int a3)] [] s) (hx1 : ∀ (a2 : Int32) (a3 : Int32), Acc (.inr (a2, a3)) → KK SM G 47 [(0, .ref (ad G 0)), (1, .int v1), (2, .int a2), (3, .int a3)] [] s) : JJ SM G Acc (f_Mo_isPointer_J39_1 v1 v3 s) 39 [(0, .ref (ad G 0)), (1, .int v1), (3, .int v3)] [] s := by
  unfold f_Mo_isPointer_J39_1
  refine jr_iconst C ic_0 dX12_isPointer_39 ?_
  exact t_Mo_isPointer_J40_1 G hR hL C  v1 v3 0 s hb1 hx1
noncomputable def f_Mo_isPointer_L4 (v1 : Int32) (v2 : Int32) (v3 : Int32) (s : St) : Option ((Int32 × Int32) ⊕ (Int32 × Int32)) :=
  if 4 ≤ v3 then
  some (.inr (v2, v3))
  else
  if v2 = 0 then
  f_Mo_isPointer_J39_1 v1 v3 s
  else
  gd (v1 + v3) 8192 <|
  if (s.1 19 ((v1 + v3) : Int32).toNatClampNeg) = 0 then
  f_Mo_isPointer_J39_1 v1 v3 s
  else
  gd (v1 + v3) 8192 <|
  if (s.1 17 ((v1 + v3) : Int32).toNatClampNeg) = 0 then
  f_Mo_isPointer_J40_1 v1 v3 1 s
  else
  f_Mo_isPointer_J39_1 v1 v3 s
set_option maxHeartbeats 4000000 in
set_option maxRecDepth 100000 in
theorem t_Mo_isPointer_L4 (G : GG) (hR : gR G = rmx 0 0) (hL : gL G = 4) (C : Cx SM G cX12_isPointer RX12) {Acc : ((Int32 × Int32) ⊕ (Int32 × Int32)) → Prop}  (v1 : Int32) (v2 : Int32) (v3 : Int32) (s : St) (hb1 : ∀ (a2 : Int32) (a3 : Int32), Acc (.inl (a2, a3)) → KK SM G 4 [(0, .ref (ad G 0)), (1, .int v1), (2, .int a2), (3, .int a3)] [] s) (hx1 : ∀ (a2 : Int32) (a3 : Int32), Acc (.inr (a2, a3)) → KK SM G 47 [(0, .ref (ad G 0)), (1, .int v1), (2, .int a2), (3, .int a3)] [] s) : JJ SM G Acc (f_Mo_isPointer_L4 v1 v2 v3 s) 4 [(0, .ref (ad G 0)), (1, .int v1), (2, .int v2), (3, .int v3)] [] s := by
  unfold f_Mo_isPointer_L4
  refine jr_iload_n C 3 rfl rfl dX12_isPointer_4 ?_
  refine jr_iconst C ic_4 dX12_isPointer_5 ?_
  refine jr_icmp_ge C (tgt := 47) dX12_isPointer_6 (by decide) (fun h1 => ?_) (fun h1 => ?_)
  · refine jo_pos h1 ?_
    exact jr_end (fun h => hx1 v2 v3 h)
  refine jo_neg h1 ?_
  refine jr_iload_n C 2 rfl rfl dX12_isPointer_9 ?_
  refine jr_if_eq C (tgt := 39) dX12_isPointer_10 (by decide) (fun h2 => ?_) (fun h2 => ?_)
  · refine jo_pos h2 ?_
    refine jr_lv [0, 1, 3] rfl ?_
    exact t_Mo_isPointer_J39_1 G hR hL C  v1 v3 s hb1 hx1
  refine jo_neg h2 ?_
  refine jr_aload_n C 0 rfl rfl dX12_isPointer_13 ?_
  refine jr_getR C FX_10 36 oS_0.1 oS_0.2 ff_10_36.1 ff_10_36.2 rfl fl_X12_73 dX12_isPointer_14 ?_
  refine jr_iload_n C 1 rfl rfl dX12_isPointer_17 ?_
  refine jr_iload_n C 3 rfl rfl dX12_isPointer_18 ?_
  refine jr_iadd C dX12_isPointer_19 ?_
  refine jr_zald C oS_19.1 oS_19.2.1 oS_19.2.2 dX12_isPointer_20 ?_
  refine jr_if_eq C (tgt := 39) dX12_isPointer_21 (by decide) (fun h3 => ?_) (fun h3 => ?_)
  · refine jo_pos h3 ?_
    refine jr_lv [0, 1, 3] rfl ?_
    exact t_Mo_isPointer_J39_1 G hR hL C  v1 v3 s hb1 hx1
  refine jo_neg h3 ?_
  refine jr_aload_n C 0 rfl rfl dX12_isPointer_24 ?_
  refine jr_getR C FX_10 34 oS_0.1 oS_0.2 ff_10_34.1 ff_10_34.2 rfl fl_X12_67 dX12_isPointer_25 ?_
  refine jr_iload_n C 1 rfl rfl dX12_isPointer_28 ?_
  refine jr_iload_n C 3 rfl rfl dX12_isPointer_29 ?_
  refine jr_iadd C dX12_isPointer_30 ?_
  refine jr_iald C oS_17.1 oS_17.2.1 oS_17.2.2 dX12_isPointer_31 ?_
  refine jr_if_ne C (tgt := 39) dX12_isPointer_32 (by decide) (fun h4 => ?_) (fun h4 => ?_)
  · refine jo_neg h4 ?_
    refine jr_lv [0, 1, 3] rfl ?_
    exact t_Mo_isPointer_J39_1 G hR hL C  v1 v3 s hb1 hx1
  refine jo_pos h4 ?_
  refine jr_iconst C ic_1 dX12_isPointer_35 ?_
  refine jr_goto C (tgt := 40) dX12_isPointer_36 (by decide) ?_
  refine jr_lv [0, 1, 3] rfl ?_
  exact t_Mo_isPointer_J40_1 G hR hL C  v1 v3 1 s hb1 hx1
noncomputable def f_Mo_isPointer (v1 : Int32) (s : St) : Option Int32 :=
  (wh (fun a : (Int32 × Int32) => f_Mo_isPointer_L4 v1 a.1 a.2 s) (1, 0)).bind (fun b5 =>
  some (bN (b5.1)))
set_option maxHeartbeats 4000000 in
set_option maxRecDepth 100000 in
theorem t_Mo_isPointer (G : GG) (hR : gR G = rmx 0 0) (hL : gL G = 4) (C : Cx SM G cX12_isPointer RX12) {Acc : Int32 → Prop}  (v1 : Int32) (s : St) (hr : ∀ v : Int32, Acc v → RtZ SM G cX12_isPointer v s) : JJ SM G Acc (f_Mo_isPointer v1 s) 0 [(0, .ref (ad G 0)), (1, .int v1)] [] s := by
  unfold f_Mo_isPointer
  refine jr_iconst C ic_1 dX12_isPointer_0 ?_
  refine jr_istore_n C (lv' := [(2, .int 1), (0, .ref (ad G 0)), (1, .int v1)]) (ltL hL rfl) rfl rfl dX12_isPointer_1 ?_
  refine jr_iconst C ic_0 dX12_isPointer_2 ?_
  refine jr_istore_n C (lv' := [(3, .int 0), (2, .int 1), (0, .ref (ad G 0)), (1, .int v1)]) (ltL hL rfl) rfl rfl dX12_isPointer_3 ?_
  refine jr_lv [2, 3, 1, 0] rfl ?_
  refine jr_loopB (pc := 4) (pcx := 47) (f := fun a : (Int32 × Int32) => f_Mo_isPointer_L4 v1 a.1 a.2 s) (fun a : (Int32 × Int32) => [(0, .ref (ad G 0)), (1, .int v1), (2, .int (a.1)), (3, .int (a.2))]) (fun a : (Int32 × Int32) => s) (1, 0) (fun a => t_Mo_isPointer_L4 G hR hL C  v1 a.1 a.2 s (fun _ _ h => h) (fun _ _ h => h)) (fun b5 => ?_)
  refine jr_iload_n C 2 rfl rfl dX12_isPointer_47 ?_
  exact jr_end (fun h => hr (bN (b5.1)) h _ _ _ rfl dX12_isPointer_48)
set_option maxRecDepth 100000 in
theorem c_Mo_isPointer (l : Launch)  (v1 : Int32) (s : St) {q : Int32} (h : f_Mo_isPointer v1 s = some q) : CT SM l yX12_isPointer cX12_isPointer 4 (some .boolean) 0 0 (fun a => [.ref (a 0), .int v1]) s s (fun _ => some (.int q)) :=
  ct_Z okX_M (by decide) (fun _ => Nat.le_of_ble_eq_true rfl) (fun G hl hR hL C hr => t_Mo_isPointer G hR hL C (Acc := fun v => v = q)  v1 s (fun v hv => by rw [hv]; exact hr) ⟨_, h, rfl⟩)
noncomputable def f_Mo_word (v1 : Int32) (s : St) : Option Int32 :=
  gd v1 8192 <|
  gd (v1 + 1) 8192 <|
  gd (v1 + 2) 8192 <|
  gd (v1 + 3) 8192 <|
  some ((((s.1 16 (v1 : Int32).toNatClampNeg) ||| ((s.1 16 ((v1 + 1) : Int32).toNatClampNeg) <<< (8 &&& 31))) ||| ((s.1 16 ((v1 + 2) : Int32).toNatClampNeg) <<< (16 &&& 31))) ||| ((s.1 16 ((v1 + 3) : Int32).toNatClampNeg) <<< (24 &&& 31)))
set_option maxHeartbeats 4000000 in
set_option maxRecDepth 100000 in
theorem t_Mo_word (G : GG) (hR : gR G = rmx 0 0) (hL : gL G = 2) (C : Cx SM G cX12_word RX12) {Acc : Int32 → Prop}  (v1 : Int32) (s : St) (hr : ∀ v : Int32, Acc v → RtI SM G cX12_word v s) : JJ SM G Acc (f_Mo_word v1 s) 0 [(0, .ref (ad G 0)), (1, .int v1)] [] s := by
  unfold f_Mo_word
  refine jr_aload_n C 0 rfl rfl dX12_word_0 ?_
  refine jr_getR C FX_10 33 oS_0.1 oS_0.2 ff_10_33.1 ff_10_33.2 rfl fl_X12_64 dX12_word_1 ?_
  refine jr_iload_n C 1 rfl rfl dX12_word_4 ?_
  refine jr_iald C oS_16.1 oS_16.2.1 oS_16.2.2 dX12_word_5 ?_
  refine jr_aload_n C 0 rfl rfl dX12_word_6 ?_
  refine jr_getR C FX_10 33 oS_0.1 oS_0.2 ff_10_33.1 ff_10_33.2 rfl fl_X12_64 dX12_word_7 ?_
  refine jr_iload_n C 1 rfl rfl dX12_word_10 ?_
  refine jr_iconst C ic_1 dX12_word_11 ?_
  refine jr_iadd C dX12_word_12 ?_
  refine jr_iald C oS_16.1 oS_16.2.1 oS_16.2.2 dX12_word_13 ?_
  refine jr_bipush C bp_8 dX12_word_14 ?_
  refine jr_ishl C dX12_word_16 ?_
  refine jr_ior C dX12_word_17 ?_
  refine jr_aload_n C 0 rfl rfl dX12_word_18 ?_
  refine jr_getR C FX_10 33 oS_0.1 oS_0.2 ff_10_33.1 ff_10_33.2 rfl fl_X12_64 dX12_word_19 ?_
  refine jr_iload_n C 1 rfl rfl dX12_word_22 ?_
  refine jr_iconst C ic_2 dX12_word_23 ?_
  refine jr_iadd C dX12_word_24 ?_
  refine jr_iald C oS_16.1 oS_16.2.1 oS_16.2.2 dX12_word_25 ?_
  refine jr_bipush C bp_16 dX12_word_26 ?_
  refine jr_ishl C dX12_word_28 ?_
  refine jr_ior C dX12_word_29 ?_
  refine jr_aload_n C 0 rfl rfl dX12_word_30 ?_
  refine jr_getR C FX_10 33 oS_0.1 oS_0.2 ff_10_33.1 ff_10_33.2 rfl fl_X12_64 dX12_word_31 ?_
  refine jr_iload_n C 1 rfl rfl dX12_word_34 ?_
  refine jr_iconst C ic_3 dX12_word_35 ?_
  refine jr_iadd C dX12_word_36 ?_
  refine jr_iald C oS_16.1 oS_16.2.1 oS_16.2.2 dX12_word_37 ?_
  refine jr_bipush C bp_24 dX12_word_38 ?_
  refine jr_ishl C dX12_word_40 ?_
  refine jr_ior C dX12_word_41 ?_
  exact jr_end (fun h => hr ((((s.1 16 (v1 : Int32).toNatClampNeg) ||| ((s.1 16 ((v1 + 1) : Int32).toNatClampNeg) <<< (8 &&& 31))) ||| ((s.1 16 ((v1 + 2) : Int32).toNatClampNeg) <<< (16 &&& 31))) ||| ((s.1 16 ((v1 + 3) : Int32).toNatClampNeg) <<< (24 &&& 31))) h _ _ dX12_word_42)
set_option maxRecDepth 100000 in
theorem c_Mo_word (l : Launch)  (v1 : Int32) (s : St) {q : Int32} (h : f_Mo_word v1 s = some q) : CT SM l yX12_word cX12_word 2 (some .int) 0 0 (fun a => [.ref (a 0), .int v1]) s s (fun _ => some (.int q)) :=
  ct_I okX_M (by decide) (fun _ => Nat.le_of_ble_eq_true rfl) (fun G hl hR hL C hr => t_Mo_word G hR hL C (Acc := fun v => v = q)  v1 s (fun v hv => by rw [hv]; exact hr) ⟨_, h, rfl⟩)
noncomputable def f_Mo_leads (v1 : Int32) (v2 : Int32) (v3 : Int32) (s : St) : Option Int32 :=
  if v3 = 0 then
  (gd v2 202 <|
  if v1 = (s.1 28 (v2 : Int32).toNatClampNeg) then
  some 1
  else
  some 0)
  else
  gd v2 202 <|
  if v1 ≤ (s.1 28 (v2 : Int32).toNatClampNeg) then
  some 0
  else
  gd v2 202 <|
  gd v2 202 <|
  if ((s.1 28 (v2 : Int32).toNatClampNeg) + (s.1 29 (v2 : Int32).toNatClampNeg)) ≤ v1 then
  some 0
  else
  some 1
set_option maxHeartbeats 4000000 in
set_option maxRecDepth 100000 in
theorem t_Mo_leads (G : GG) (hR : gR G = rmx 0 0) (hL : gL G = 4) (C : Cx SM G cX12_leads RX12) {Acc : Int32 → Prop}  (v1 : Int32) (v2 : Int32) (v3 : Int32) (s : St) (hr : ∀ v : Int32, Acc v → RtZ SM G cX12_leads v s) : JJ SM G Acc (f_Mo_leads v1 v2 v3 s) 0 [(0, .ref (ad G 0)), (1, .int v1), (2, .int v2), (3, .int v3)] [] s := by
  unfold f_Mo_leads
  refine jr_iload_n C 3 rfl rfl dX12_leads_0 ?_
  refine jr_if_eq C (tgt := 39) dX12_leads_1 (by decide) (fun h1 => ?_) (fun h1 => ?_)
  · refine jo_pos h1 ?_
    refine jr_iload_n C 1 rfl rfl dX12_leads_39 ?_
    refine jr_aload_n C 0 rfl rfl dX12_leads_40 ?_
    refine jr_getR C FX_10 45 oS_0.1 oS_0.2 ff_10_45.1 ff_10_45.2 rfl fl_X12_100 dX12_leads_41 ?_
    refine jr_iload_n C 2 rfl rfl dX12_leads_44 ?_
    refine jr_iald C oS_28.1 oS_28.2.1 oS_28.2.2 dX12_leads_45 ?_
    refine jr_icmp_ne C (tgt := 53) dX12_leads_46 (by decide) (fun h2 => ?_) (fun h2 => ?_)
    · refine jo_neg h2 ?_
      refine jr_iconst C ic_0 dX12_leads_53 ?_
      exact jr_end (fun h => hr 0 h _ _ _ bN0 dX12_leads_54)
    refine jo_pos h2 ?_
    refine jr_iconst C ic_1 dX12_leads_49 ?_
    refine jr_goto C (tgt := 54) dX12_leads_50 (by decide) ?_
    exact jr_end (fun h => hr 1 h _ _ _ bN1 dX12_leads_54)
  refine jo_neg h1 ?_
  refine jr_iload_n C 1 rfl rfl dX12_leads_4 ?_
  refine jr_aload_n C 0 rfl rfl dX12_leads_5 ?_
  refine jr_getR C FX_10 45 oS_0.1 oS_0.2 ff_10_45.1 ff_10_45.2 rfl fl_X12_100 dX12_leads_6 ?_
  refine jr_iload_n C 2 rfl rfl dX12_leads_9 ?_
  refine jr_iald C oS_28.1 oS_28.2.1 oS_28.2.2 dX12_leads_10 ?_
  refine jr_icmp_le C (tgt := 35) dX12_leads_11 (by decide) (fun h3 => ?_) (fun h3 => ?_)
  · refine jo_pos h3 ?_
    refine jr_iconst C ic_0 dX12_leads_35 ?_
    refine jr_goto C (tgt := 54) dX12_leads_36 (by decide) ?_
    exact jr_end (fun h => hr 0 h _ _ _ bN0 dX12_leads_54)
  refine jo_neg h3 ?_
  refine jr_iload_n C 1 rfl rfl dX12_leads_14 ?_
  refine jr_aload_n C 0 rfl rfl dX12_leads_15 ?_
  refine jr_getR C FX_10 45 oS_0.1 oS_0.2 ff_10_45.1 ff_10_45.2 rfl fl_X12_100 dX12_leads_16 ?_
  refine jr_iload_n C 2 rfl rfl dX12_leads_19 ?_
  refine jr_iald C oS_28.1 oS_28.2.1 oS_28.2.2 dX12_leads_20 ?_
  refine jr_aload_n C 0 rfl rfl dX12_leads_21 ?_
  refine jr_getR C FX_10 46 oS_0.1 oS_0.2 ff_10_46.1 ff_10_46.2 rfl fl_X12_103 dX12_leads_22 ?_
  refine jr_iload_n C 2 rfl rfl dX12_leads_25 ?_
  refine jr_iald C oS_29.1 oS_29.2.1 oS_29.2.2 dX12_leads_26 ?_
  refine jr_iadd C dX12_leads_27 ?_
  refine jr_icmp_ge C (tgt := 35) dX12_leads_28 (by decide) (fun h4 => ?_) (fun h4 => ?_)
  · refine jo_pos h4 ?_
    refine jr_iconst C ic_0 dX12_leads_35 ?_
    refine jr_goto C (tgt := 54) dX12_leads_36 (by decide) ?_
    exact jr_end (fun h => hr 0 h _ _ _ bN0 dX12_leads_54)
  refine jo_neg h4 ?_
  refine jr_iconst C ic_1 dX12_leads_31 ?_
  refine jr_goto C (tgt := 54) dX12_leads_32 (by decide) ?_
  exact jr_end (fun h => hr 1 h _ _ _ bN1 dX12_leads_54)
set_option maxRecDepth 100000 in
theorem c_Mo_leads (l : Launch)  (v1 : Int32) (v2 : Int32) (v3 : Int32) (s : St) {q : Int32} (h : f_Mo_leads v1 v2 v3 s = some q) : CT SM l yX12_leads cX12_leads 4 (some .boolean) 0 0 (fun a => [.ref (a 0), .int v1, .int v2, .int v3]) s s (fun _ => some (.int q)) :=
  ct_Z okX_M (by decide) (fun _ => Nat.le_of_ble_eq_true rfl) (fun G hl hR hL C hr => t_Mo_leads G hR hL C (Acc := fun v => v = q)  v1 v2 v3 s (fun v hv => by rw [hv]; exact hr) ⟨_, h, rfl⟩)
noncomputable def f_Mo_leadsFromRange_J54_1 (v2 : Int32) (v3 : Int32) (v4 : Int32) (v6 : Int32) (w0 : Int32) (s : St) : Option ((Int32 × Int32) ⊕ (Int32 × Int32)) :=
  some (.inl (w0, (v6 + 4)))
set_option maxHeartbeats 4000000 in
set_option maxRecDepth 100000 in
theorem t_Mo_leadsFromRange_J54_1 (G : GG) (hR : gR G = rmx 1 23) (hL : gL G = 7) (C : Cx SM G cX12_leadsFromRange RX12) {Acc : ((Int32 × Int32) ⊕ (Int32 × Int32)) → Prop}  (v2 : Int32) (v3 : Int32) (v4 : Int32) (v6 : Int32) (w0 : Int32) (s : St) (hb1 : ∀ (a5 : Int32) (a6 : Int32), Acc (.inl (a5, a6)) → KK SM G 11 [(0, .ref (ad G 0)), (2, .int v2), (3, .int v3), (4, .int v4), (5, .int a5), (6, .int a6)] [] s) (hx1 : ∀ (a5 : Int32) (a6 : Int32), Acc (.inr (a5, a6)) → KK SM G 62 [(0, .ref (ad G 0)), (2, .int v2), (3, .int v3), (4, .int v4), (5, .int a5), (6, .int a6)] [] s) : JJ SM G Acc (f_Mo_leadsFromRange_J54_1 v2 v3 v4 v6 w0 s) 54 [(0, .ref (ad G 0)), (2, .int v2), (3, .int v3), (4, .int v4), (6, .int v6)] [.int w0] s := by
  unfold f_Mo_leadsFromRange_J54_1
  refine jr_istore C (lv' := [(5, .int w0), (0, .ref (ad G 0)), (2, .int v2), (3, .int v3), (4, .int v4), (6, .int v6)]) (ltL hL rfl) rfl dX12_leadsFromRange_54 ?_
  refine jr_iinc C 5 rfl ii_4 (lv' := [(6, .int (v6 + 4)), (5, .int w0), (0, .ref (ad G 0)), (2, .int v2), (3, .int v3), (4, .int v4)]) (ltL hL rfl) rfl dX12_leadsFromRange_56 ?_
  refine jr_goto C (tgt := 11) dX12_leadsFromRange_59 (by decide) ?_
  refine jr_lv [2, 3, 4, 5, 1, 0] rfl ?_
  exact jr_end (fun h => hb1 w0 (v6 + 4) h)
noncomputable def f_Mo_leadsFromRange_J53_1 (v2 : Int32) (v3 : Int32) (v4 : Int32) (v6 : Int32) (s : St) : Option ((Int32 × Int32) ⊕ (Int32 × Int32)) :=
  f_Mo_leadsFromRange_J54_1 v2 v3 v4 v6 0 s
set_option maxHeartbeats 4000000 in
set_option maxRecDepth 100000 in
theorem t_Mo_leadsFromRange_J53_1 (G : GG) (hR : gR G = rmx 1 23) (hL : gL G = 7) (C : Cx SM G cX12_leadsFromRange RX12) {Acc : ((Int32 × Int32) ⊕ (Int32 × Int32)) → Prop}  (v2 : Int32) (v3 : Int32) (v4 : Int32) (v6 : Int32) (s : St) (hb1 : ∀ (a5 : Int32) (a6 : Int32), Acc (.inl (a5, a6)) → KK SM G 11 [(0, .ref (ad G 0)), (2, .int v2), (3, .int v3), (4, .int v4), (5, .int a5), (6, .int a6)] [] s) (hx1 : ∀ (a5 : Int32) (a6 : Int32), Acc (.inr (a5, a6)) → KK SM G 62 [(0, .ref (ad G 0)), (2, .int v2), (3, .int v3), (4, .int v4), (5, .int a5), (6, .int a6)] [] s) : JJ SM G Acc (f_Mo_leadsFromRange_J53_1 v2 v3 v4 v6 s) 53 [(0, .ref (ad G 0)), (2, .int v2), (3, .int v3), (4, .int v4), (6, .int v6)] [] s := by
  unfold f_Mo_leadsFromRange_J53_1
  refine jr_iconst C ic_0 dX12_leadsFromRange_53 ?_
  exact t_Mo_leadsFromRange_J54_1 G hR hL C  v2 v3 v4 v6 0 s hb1 hx1
noncomputable def f_Mo_leadsFromRange_L11 (v2 : Int32) (v3 : Int32) (v4 : Int32) (v5 : Int32) (v6 : Int32) (s : St) : Option ((Int32 × Int32) ⊕ (Int32 × Int32)) :=
  if v5 = 0 then
  (if v2 < (v6 + 4) then
  some (.inr (v5, v6))
  else
  (f_Mo_isPointer v6 s).bind fun q4 =>
  if q4 = 0 then
  f_Mo_leadsFromRange_J53_1 v2 v3 v4 v6 s
  else
  (f_Mo_word v6 s).bind fun q7 =>
  (f_Mo_leads q7 v3 v4 s).bind fun q9 =>
  if q9 = 0 then
  f_Mo_leadsFromRange_J53_1 v2 v3 v4 v6 s
  else
  f_Mo_leadsFromRange_J54_1 v2 v3 v4 v6 1 s)
  else
  some (.inr (v5, v6))
set_option maxHeartbeats 4000000 in
set_option maxRecDepth 100000 in
theorem t_Mo_leadsFromRange_L11 (G : GG) (hR : gR G = rmx 1 23) (hL : gL G = 7) (C : Cx SM G cX12_leadsFromRange RX12) {Acc : ((Int32 × Int32) ⊕ (Int32 × Int32)) → Prop}  (v2 : Int32) (v3 : Int32) (v4 : Int32) (v5 : Int32) (v6 : Int32) (s : St) (hb1 : ∀ (a5 : Int32) (a6 : Int32), Acc (.inl (a5, a6)) → KK SM G 11 [(0, .ref (ad G 0)), (2, .int v2), (3, .int v3), (4, .int v4), (5, .int a5), (6, .int a6)] [] s) (hx1 : ∀ (a5 : Int32) (a6 : Int32), Acc (.inr (a5, a6)) → KK SM G 62 [(0, .ref (ad G 0)), (2, .int v2), (3, .int v3), (4, .int v4), (5, .int a5), (6, .int a6)] [] s) : JJ SM G Acc (f_Mo_leadsFromRange_L11 v2 v3 v4 v5 v6 s) 11 [(0, .ref (ad G 0)), (2, .int v2), (3, .int v3), (4, .int v4), (5, .int v5), (6, .int v6)] [] s := by
  unfold f_Mo_leadsFromRange_L11
  refine jr_iload C 4 rfl dX12_leadsFromRange_11 ?_
  refine jr_if_ne C (tgt := 62) dX12_leadsFromRange_13 (by decide) (fun h2 => ?_) (fun h2 => ?_)
  · refine jo_neg h2 ?_
    exact jr_end (fun h => hx1 v5 v6 h)
  refine jo_pos h2 ?_
  refine jr_iload C 5 rfl dX12_leadsFromRange_16 ?_
  refine jr_iconst C ic_4 dX12_leadsFromRange_18 ?_
  refine jr_iadd C dX12_leadsFromRange_19 ?_
  refine jr_iload_n C 1 rfl rfl dX12_leadsFromRange_20 ?_
  refine jr_icmp_gt C (tgt := 62) dX12_leadsFromRange_21 (by decide) (fun h3 => ?_) (fun h3 => ?_)
  · refine jo_pos h3 ?_
    exact jr_end (fun h => hx1 v5 v6 h)
  refine jo_neg h3 ?_
  refine jr_aload_n C 0 rfl rfl dX12_leadsFromRange_24 ?_
  refine jr_iload C 5 rfl dX12_leadsFromRange_25 ?_
  refine jr_bind (fun q4 e5 => ?_)
  refine jr_callVI C FX_10 km_X12_568 oS_0.1 oS_0.2 (rk hR rfl) (c_Mo_isPointer (gl G) v6 s e5) rfl rfl rfl (Nat.le_of_ble_eq_true rfl) dX12_leadsFromRange_27 ?_
  refine jr_if_eq C (tgt := 53) dX12_leadsFromRange_30 (by decide) (fun h6 => ?_) (fun h6 => ?_)
  · refine jo_pos h6 ?_
    refine jr_lv [0, 1, 2, 3, 5] rfl ?_
    exact t_Mo_leadsFromRange_J53_1 G hR hL C  v2 v3 v4 v6 s hb1 hx1
  refine jo_neg h6 ?_
  refine jr_aload_n C 0 rfl rfl dX12_leadsFromRange_33 ?_
  refine jr_aload_n C 0 rfl rfl dX12_leadsFromRange_34 ?_
  refine jr_iload C 5 rfl dX12_leadsFromRange_35 ?_
  refine jr_bind (fun q7 e8 => ?_)
  refine jr_callVI C FX_10 km_X12_571 oS_0.1 oS_0.2 (rk hR rfl) (c_Mo_word (gl G) v6 s e8) rfl rfl rfl (Nat.le_of_ble_eq_true rfl) dX12_leadsFromRange_37 ?_
  refine jr_iload_n C 2 rfl rfl dX12_leadsFromRange_40 ?_
  refine jr_iload C 3 rfl dX12_leadsFromRange_41 ?_
  refine jr_bind (fun q9 e10 => ?_)
  refine jr_callVI C FX_10 km_X12_574 oS_0.1 oS_0.2 (rk hR rfl) (c_Mo_leads (gl G) q7 v3 v4 s e10) rfl rfl rfl (Nat.le_of_ble_eq_true rfl) dX12_leadsFromRange_43 ?_
  refine jr_if_eq C (tgt := 53) dX12_leadsFromRange_46 (by decide) (fun h11 => ?_) (fun h11 => ?_)
  · refine jo_pos h11 ?_
    refine jr_lv [0, 1, 2, 3, 5] rfl ?_
    exact t_Mo_leadsFromRange_J53_1 G hR hL C  v2 v3 v4 v6 s hb1 hx1
  refine jo_neg h11 ?_
  refine jr_iconst C ic_1 dX12_leadsFromRange_49 ?_
  refine jr_goto C (tgt := 54) dX12_leadsFromRange_50 (by decide) ?_
  refine jr_lv [0, 1, 2, 3, 5] rfl ?_
  exact t_Mo_leadsFromRange_J54_1 G hR hL C  v2 v3 v4 v6 1 s hb1 hx1
noncomputable def f_Mo_leadsFromRange (v1 : Int32) (v2 : Int32) (v3 : Int32) (v4 : Int32) (s : St) : Option Int32 :=
  lt ((v1 + 3) &&& (-4)) fun x1 =>
  (wh (fun a : (Int32 × Int32) => f_Mo_leadsFromRange_L11 v2 v3 v4 a.1 a.2 s) (0, x1)).bind (fun b12 =>
  some (bN (b12.1)))
set_option maxHeartbeats 4000000 in
set_option maxRecDepth 100000 in
theorem t_Mo_leadsFromRange (G : GG) (hR : gR G = rmx 1 23) (hL : gL G = 7) (C : Cx SM G cX12_leadsFromRange RX12) {Acc : Int32 → Prop}  (v1 : Int32) (v2 : Int32) (v3 : Int32) (v4 : Int32) (s : St) (hr : ∀ v : Int32, Acc v → RtZ SM G cX12_leadsFromRange v s) : JJ SM G Acc (f_Mo_leadsFromRange v1 v2 v3 v4 s) 0 [(0, .ref (ad G 0)), (1, .int v1), (2, .int v2), (3, .int v3), (4, .int v4)] [] s := by
  unfold f_Mo_leadsFromRange
  refine jr_iconst C ic_0 dX12_leadsFromRange_0 ?_
  refine jr_istore C (lv' := [(5, .int 0), (0, .ref (ad G 0)), (1, .int v1), (2, .int v2), (3, .int v3), (4, .int v4)]) (ltL hL rfl) rfl dX12_leadsFromRange_1 ?_
  refine jr_iload_n C 2 rfl rfl dX12_leadsFromRange_3 ?_
  refine jr_iconst C ic_3 dX12_leadsFromRange_4 ?_
  refine jr_iadd C dX12_leadsFromRange_5 ?_
  refine jr_bipush C bp_m4 dX12_leadsFromRange_6 ?_
  refine jr_iand C dX12_leadsFromRange_8 ?_
  refine jr_ltI (fun x1 => ?_)
  refine jr_istore C (lv' := [(6, .int x1), (5, .int 0), (0, .ref (ad G 0)), (1, .int v1), (2, .int v2), (3, .int v3), (4, .int v4)]) (ltL hL rfl) rfl dX12_leadsFromRange_9 ?_
  refine jr_lv [2, 4, 5, 6, 1, 0] rfl ?_
  refine jr_loopB (pc := 11) (pcx := 62) (f := fun a : (Int32 × Int32) => f_Mo_leadsFromRange_L11 v2 v3 v4 a.1 a.2 s) (fun a : (Int32 × Int32) => [(0, .ref (ad G 0)), (2, .int v2), (3, .int v3), (4, .int v4), (5, .int (a.1)), (6, .int (a.2))]) (fun a : (Int32 × Int32) => s) (0, x1) (fun a => t_Mo_leadsFromRange_L11 G hR hL C  v2 v3 v4 a.1 a.2 s (fun _ _ h => h) (fun _ _ h => h)) (fun b12 => ?_)
  refine jr_iload C 4 rfl dX12_leadsFromRange_62 ?_
  exact jr_end (fun h => hr (bN (b12.1)) h _ _ _ rfl dX12_leadsFromRange_64)
set_option maxRecDepth 100000 in
theorem c_Mo_leadsFromRange (l : Launch)  (v1 : Int32) (v2 : Int32) (v3 : Int32) (v4 : Int32) (s : St) {q : Int32} (h : f_Mo_leadsFromRange v1 v2 v3 v4 s = some q) : CT SM l yX12_leadsFromRange cX12_leadsFromRange 7 (some .boolean) 1 23 (fun a => [.ref (a 0), .int v1, .int v2, .int v3, .int v4]) s s (fun _ => some (.int q)) :=
  ct_Z okX_M (by decide) (fun _ => Nat.le_of_ble_eq_true rfl) (fun G hl hR hL C hr => t_Mo_leadsFromRange G hR hL C (Acc := fun v => v = q)  v1 v2 v3 v4 s (fun v hv => by rw [hv]; exact hr) ⟨_, h, rfl⟩)
noncomputable def f_Mo_leadsFromRoots_J81_1 (v1 : Int32) (v2 : Int32) (v4 : Int32) (w0 : Int32) (s : St) : Option ((Int32 × Int32) ⊕ (Int32 × Int32)) :=
  some (.inl (w0, (v4 + 1)))
set_option maxHeartbeats 4000000 in
set_option maxRecDepth 100000 in
theorem t_Mo_leadsFromRoots_J81_1 (G : GG) (hR : gR G = rmx 2 49) (hL : gL G = 5) (C : Cx SM G cX12_leadsFromRoots RX12) {Acc : ((Int32 × Int32) ⊕ (Int32 × Int32)) → Prop}  (v1 : Int32) (v2 : Int32) (v4 : Int32) (w0 : Int32) (s : St) (hb1 : ∀ (a3 : Int32) (a4 : Int32), Acc (.inl (a3, a4)) → KK SM G 39 [(0, .ref (ad G 0)), (1, .int v1), (2, .int v2), (3, .int a3), (4, .int a4)] [] s) (hx1 : ∀ (a3 : Int32) (a4 : Int32), Acc (.inr (a3, a4)) → KK SM G 88 [(0, .ref (ad G 0)), (1, .int v1), (2, .int v2), (3, .int a3), (4, .int a4)] [] s) : JJ SM G Acc (f_Mo_leadsFromRoots_J81_1 v1 v2 v4 w0 s) 81 [(0, .ref (ad G 0)), (1, .int v1), (2, .int v2), (4, .int v4)] [.int w0] s := by
  unfold f_Mo_leadsFromRoots_J81_1
  refine jr_istore_n C (lv' := [(3, .int w0), (0, .ref (ad G 0)), (1, .int v1), (2, .int v2), (4, .int v4)]) (ltL hL rfl) rfl rfl dX12_leadsFromRoots_81 ?_
  refine jr_iinc C 4 rfl ii_1 (lv' := [(4, .int (v4 + 1)), (3, .int w0), (0, .ref (ad G 0)), (1, .int v1), (2, .int v2)]) (ltL hL rfl) rfl dX12_leadsFromRoots_82 ?_
  refine jr_goto C (tgt := 39) dX12_leadsFromRoots_85 (by decide) ?_
  refine jr_lv [2, 3, 4, 1, 0] rfl ?_
  exact jr_end (fun h => hb1 w0 (v4 + 1) h)
noncomputable def f_Mo_leadsFromRoots_J76_1 (v1 : Int32) (v2 : Int32) (v4 : Int32) (s : St) : Option ((Int32 × Int32) ⊕ (Int32 × Int32)) :=
  f_Mo_leadsFromRoots_J81_1 v1 v2 v4 1 s
set_option maxHeartbeats 4000000 in
set_option maxRecDepth 100000 in
theorem t_Mo_leadsFromRoots_J76_1 (G : GG) (hR : gR G = rmx 2 49) (hL : gL G = 5) (C : Cx SM G cX12_leadsFromRoots RX12) {Acc : ((Int32 × Int32) ⊕ (Int32 × Int32)) → Prop}  (v1 : Int32) (v2 : Int32) (v4 : Int32) (s : St) (hb1 : ∀ (a3 : Int32) (a4 : Int32), Acc (.inl (a3, a4)) → KK SM G 39 [(0, .ref (ad G 0)), (1, .int v1), (2, .int v2), (3, .int a3), (4, .int a4)] [] s) (hx1 : ∀ (a3 : Int32) (a4 : Int32), Acc (.inr (a3, a4)) → KK SM G 88 [(0, .ref (ad G 0)), (1, .int v1), (2, .int v2), (3, .int a3), (4, .int a4)] [] s) : JJ SM G Acc (f_Mo_leadsFromRoots_J76_1 v1 v2 v4 s) 76 [(0, .ref (ad G 0)), (1, .int v1), (2, .int v2), (4, .int v4)] [] s := by
  unfold f_Mo_leadsFromRoots_J76_1
  refine jr_iconst C ic_1 dX12_leadsFromRoots_76 ?_
  refine jr_goto C (tgt := 81) dX12_leadsFromRoots_77 (by decide) ?_
  exact t_Mo_leadsFromRoots_J81_1 G hR hL C  v1 v2 v4 1 s hb1 hx1
noncomputable def f_Mo_leadsFromRoots_J80_1 (v1 : Int32) (v2 : Int32) (v4 : Int32) (s : St) : Option ((Int32 × Int32) ⊕ (Int32 × Int32)) :=
  f_Mo_leadsFromRoots_J81_1 v1 v2 v4 0 s
set_option maxHeartbeats 4000000 in
set_option maxRecDepth 100000 in
theorem t_Mo_leadsFromRoots_J80_1 (G : GG) (hR : gR G = rmx 2 49) (hL : gL G = 5) (C : Cx SM G cX12_leadsFromRoots RX12) {Acc : ((Int32 × Int32) ⊕ (Int32 × Int32)) → Prop}  (v1 : Int32) (v2 : Int32) (v4 : Int32) (s : St) (hb1 : ∀ (a3 : Int32) (a4 : Int32), Acc (.inl (a3, a4)) → KK SM G 39 [(0, .ref (ad G 0)), (1, .int v1), (2, .int v2), (3, .int a3), (4, .int a4)] [] s) (hx1 : ∀ (a3 : Int32) (a4 : Int32), Acc (.inr (a3, a4)) → KK SM G 88 [(0, .ref (ad G 0)), (1, .int v1), (2, .int v2), (3, .int a3), (4, .int a4)] [] s) : JJ SM G Acc (f_Mo_leadsFromRoots_J80_1 v1 v2 v4 s) 80 [(0, .ref (ad G 0)), (1, .int v1), (2, .int v2), (4, .int v4)] [] s := by
  unfold f_Mo_leadsFromRoots_J80_1
  refine jr_iconst C ic_0 dX12_leadsFromRoots_80 ?_
  exact t_Mo_leadsFromRoots_J81_1 G hR hL C  v1 v2 v4 0 s hb1 hx1
noncomputable def f_Mo_leadsFromRoots_L39 (v1 : Int32) (v2 : Int32) (v3 : Int32) (v4 : Int32) (s : St) : Option ((Int32 × Int32) ⊕ (Int32 × Int32)) :=
  if 8 ≤ v4 then
  some (.inr (v3, v4))
  else
  if v3 = 0 then
  (gd v4 16 <|
  if (s.1 14 (v4 : Int32).toNatClampNeg) = 0 then
  (gd v4 16 <|
  (f_Mo_leads (s.1 13 (v4 : Int32).toNatClampNeg) v1 v2 s).bind fun q7 =>
  if q7 = 0 then
  f_Mo_leadsFromRoots_J80_1 v1 v2 v4 s
  else
  f_Mo_leadsFromRoots_J76_1 v1 v2 v4 s)
  else
  f_Mo_leadsFromRoots_J80_1 v1 v2 v4 s)
  else
  f_Mo_leadsFromRoots_J76_1 v1 v2 v4 s
set_option maxHeartbeats 4000000 in
set_option maxRecDepth 100000 in
theorem t_Mo_leadsFromRoots_L39 (G : GG) (hR : gR G = rmx 2 49) (hL : gL G = 5) (C : Cx SM G cX12_leadsFromRoots RX12) {Acc : ((Int32 × Int32) ⊕ (Int32 × Int32)) → Prop}  (v1 : Int32) (v2 : Int32) (v3 : Int32) (v4 : Int32) (s : St) (hb1 : ∀ (a3 : Int32) (a4 : Int32), Acc (.inl (a3, a4)) → KK SM G 39 [(0, .ref (ad G 0)), (1, .int v1), (2, .int v2), (3, .int a3), (4, .int a4)] [] s) (hx1 : ∀ (a3 : Int32) (a4 : Int32), Acc (.inr (a3, a4)) → KK SM G 88 [(0, .ref (ad G 0)), (1, .int v1), (2, .int v2), (3, .int a3), (4, .int a4)] [] s) : JJ SM G Acc (f_Mo_leadsFromRoots_L39 v1 v2 v3 v4 s) 39 [(0, .ref (ad G 0)), (1, .int v1), (2, .int v2), (3, .int v3), (4, .int v4)] [] s := by
  unfold f_Mo_leadsFromRoots_L39
  refine jr_iload C 4 rfl dX12_leadsFromRoots_39 ?_
  refine jr_bipush C bp_8 dX12_leadsFromRoots_41 ?_
  refine jr_icmp_ge C (tgt := 88) dX12_leadsFromRoots_43 (by decide) (fun h4 => ?_) (fun h4 => ?_)
  · refine jo_pos h4 ?_
    exact jr_end (fun h => hx1 v3 v4 h)
  refine jo_neg h4 ?_
  refine jr_iload_n C 3 rfl rfl dX12_leadsFromRoots_46 ?_
  refine jr_if_ne C (tgt := 76) dX12_leadsFromRoots_47 (by decide) (fun h5 => ?_) (fun h5 => ?_)
  · refine jo_neg h5 ?_
    refine jr_lv [0, 1, 2, 4] rfl ?_
    exact t_Mo_leadsFromRoots_J76_1 G hR hL C  v1 v2 v4 s hb1 hx1
  refine jo_pos h5 ?_
  refine jr_aload_n C 0 rfl rfl dX12_leadsFromRoots_50 ?_
  refine jr_getR C FX_10 31 oS_0.1 oS_0.2 ff_10_31.1 ff_10_31.2 rfl fl_X12_58 dX12_leadsFromRoots_51 ?_
  refine jr_iload C 4 rfl dX12_leadsFromRoots_54 ?_
  refine jr_iald C oS_14.1 oS_14.2.1 oS_14.2.2 dX12_leadsFromRoots_56 ?_
  refine jr_if_ne C (tgt := 80) dX12_leadsFromRoots_57 (by decide) (fun h6 => ?_) (fun h6 => ?_)
  · refine jo_neg h6 ?_
    refine jr_lv [0, 1, 2, 4] rfl ?_
    exact t_Mo_leadsFromRoots_J80_1 G hR hL C  v1 v2 v4 s hb1 hx1
  refine jo_pos h6 ?_
  refine jr_aload_n C 0 rfl rfl dX12_leadsFromRoots_60 ?_
  refine jr_aload_n C 0 rfl rfl dX12_leadsFromRoots_61 ?_
  refine jr_getR C FX_10 30 oS_0.1 oS_0.2 ff_10_30.1 ff_10_30.2 rfl fl_X12_55 dX12_leadsFromRoots_62 ?_
  refine jr_iload C 4 rfl dX12_leadsFromRoots_65 ?_
  refine jr_iald C oS_13.1 oS_13.2.1 oS_13.2.2 dX12_leadsFromRoots_67 ?_
  refine jr_iload_n C 1 rfl rfl dX12_leadsFromRoots_68 ?_
  refine jr_iload_n C 2 rfl rfl dX12_leadsFromRoots_69 ?_
  refine jr_bind (fun q7 e8 => ?_)
  refine jr_callVI C FX_10 km_X12_574 oS_0.1 oS_0.2 (rk hR rfl) (c_Mo_leads (gl G) (s.1 13 (v4 : Int32).toNatClampNeg) v1 v2 s e8) rfl rfl rfl (Nat.le_of_ble_eq_true rfl) dX12_leadsFromRoots_70 ?_
  refine jr_if_eq C (tgt := 80) dX12_leadsFromRoots_73 (by decide) (fun h9 => ?_) (fun h9 => ?_)
  · refine jo_pos h9 ?_
    refine jr_lv [0, 1, 2, 4] rfl ?_
    exact t_Mo_leadsFromRoots_J80_1 G hR hL C  v1 v2 v4 s hb1 hx1
  refine jo_neg h9 ?_
  refine jr_lv [0, 1, 2, 4] rfl ?_
  exact t_Mo_leadsFromRoots_J76_1 G hR hL C  v1 v2 v4 s hb1 hx1
noncomputable def f_Mo_leadsFromRoots_J35 (v1 : Int32) (v2 : Int32) (w0 : Int32) (s : St) : Option Int32 :=
  (wh (fun a : (Int32 × Int32) => f_Mo_leadsFromRoots_L39 v1 v2 a.1 a.2 s) (w0, 0)).bind (fun b10 =>
  some (bN (b10.1)))
set_option maxHeartbeats 4000000 in
set_option maxRecDepth 100000 in
theorem t_Mo_leadsFromRoots_J35 (G : GG) (hR : gR G = rmx 2 49) (hL : gL G = 5) (C : Cx SM G cX12_leadsFromRoots RX12) {Acc : Int32 → Prop}  (v1 : Int32) (v2 : Int32) (w0 : Int32) (s : St) (hr : ∀ v : Int32, Acc v → RtZ SM G cX12_leadsFromRoots v s) : JJ SM G Acc (f_Mo_leadsFromRoots_J35 v1 v2 w0 s) 35 [(0, .ref (ad G 0)), (1, .int v1), (2, .int v2)] [.int w0] s := by
  unfold f_Mo_leadsFromRoots_J35
  refine jr_istore_n C (lv' := [(3, .int w0), (0, .ref (ad G 0)), (1, .int v1), (2, .int v2)]) (ltL hL rfl) rfl rfl dX12_leadsFromRoots_35 ?_
  refine jr_iconst C ic_0 dX12_leadsFromRoots_36 ?_
  refine jr_istore C (lv' := [(4, .int 0), (3, .int w0), (0, .ref (ad G 0)), (1, .int v1), (2, .int v2)]) (ltL hL rfl) rfl dX12_leadsFromRoots_37 ?_
  refine jr_lv [2, 3, 4, 1, 0] rfl ?_
  refine jr_loopB (pc := 39) (pcx := 88) (f := fun a : (Int32 × Int32) => f_Mo_leadsFromRoots_L39 v1 v2 a.1 a.2 s) (fun a : (Int32 × Int32) => [(0, .ref (ad G 0)), (1, .int v1), (2, .int v2), (3, .int (a.1)), (4, .int (a.2))]) (fun a : (Int32 × Int32) => s) (w0, 0) (fun a => t_Mo_leadsFromRoots_L39 G hR hL C  v1 v2 a.1 a.2 s (fun _ _ h => h) (fun _ _ h => h)) (fun b10 => ?_)
  refine jr_iload_n C 3 rfl rfl dX12_leadsFromRoots_88 ?_
  exact jr_end (fun h => hr (bN (b10.1)) h _ _ _ rfl dX12_leadsFromRoots_89)
noncomputable def f_Mo_leadsFromRoots_J30 (v1 : Int32) (v2 : Int32) (s : St) : Option Int32 :=
  f_Mo_leadsFromRoots_J35 v1 v2 1 s
set_option maxHeartbeats 4000000 in
set_option maxRecDepth 100000 in
theorem t_Mo_leadsFromRoots_J30 (G : GG) (hR : gR G = rmx 2 49) (hL : gL G = 5) (C : Cx SM G cX12_leadsFromRoots RX12) {Acc : Int32 → Prop}  (v1 : Int32) (v2 : Int32) (s : St) (hr : ∀ v : Int32, Acc v → RtZ SM G cX12_leadsFromRoots v s) : JJ SM G Acc (f_Mo_leadsFromRoots_J30 v1 v2 s) 30 [(0, .ref (ad G 0)), (1, .int v1), (2, .int v2)] [] s := by
  unfold f_Mo_leadsFromRoots_J30
  refine jr_iconst C ic_1 dX12_leadsFromRoots_30 ?_
  refine jr_goto C (tgt := 35) dX12_leadsFromRoots_31 (by decide) ?_
  exact t_Mo_leadsFromRoots_J35 G hR hL C  v1 v2 1 s hr
noncomputable def f_Mo_leadsFromRoots (v1 : Int32) (v2 : Int32) (s : St) : Option Int32 :=
  (f_Mo_leadsFromRange 256 512 v1 v2 s).bind fun q1 =>
  if q1 = 0 then
  ((f_Mo_leadsFromRange 3072 4096 v1 v2 s).bind fun q11 =>
  if q11 = 0 then
  f_Mo_leadsFromRoots_J35 v1 v2 0 s
  else
  f_Mo_leadsFromRoots_J30 v1 v2 s)
  else
  f_Mo_leadsFromRoots_J30 v1 v2 s
set_option maxHeartbeats 4000000 in
set_option maxRecDepth 100000 in
theorem t_Mo_leadsFromRoots (G : GG) (hR : gR G = rmx 2 49) (hL : gL G = 5) (C : Cx SM G cX12_leadsFromRoots RX12) {Acc : Int32 → Prop}  (v1 : Int32) (v2 : Int32) (s : St) (hr : ∀ v : Int32, Acc v → RtZ SM G cX12_leadsFromRoots v s) : JJ SM G Acc (f_Mo_leadsFromRoots v1 v2 s) 0 [(0, .ref (ad G 0)), (1, .int v1), (2, .int v2)] [] s := by
  unfold f_Mo_leadsFromRoots
  refine jr_aload_n C 0 rfl rfl dX12_leadsFromRoots_0 ?_
  refine jr_sipush C sp_256 dX12_leadsFromRoots_1 ?_
  refine jr_sipush C sp_512 dX12_leadsFromRoots_4 ?_
  refine jr_iload_n C 1 rfl rfl dX12_leadsFromRoots_7 ?_
  refine jr_iload_n C 2 rfl rfl dX12_leadsFromRoots_8 ?_
  refine jr_bind (fun q1 e2 => ?_)
  refine jr_callVI C FX_10 km_X12_578 oS_0.1 oS_0.2 (rk hR rfl) (c_Mo_leadsFromRange (gl G) 256 512 v1 v2 s e2) rfl rfl rfl (Nat.le_of_ble_eq_true rfl) dX12_leadsFromRoots_9 ?_
  refine jr_if_ne C (tgt := 30) dX12_leadsFromRoots_12 (by decide) (fun h3 => ?_) (fun h3 => ?_)
  · refine jo_neg h3 ?_
    exact t_Mo_leadsFromRoots_J30 G hR hL C  v1 v2 s hr
  refine jo_pos h3 ?_
  refine jr_aload_n C 0 rfl rfl dX12_leadsFromRoots_15 ?_
  refine jr_sipush C sp_3072 dX12_leadsFromRoots_16 ?_
  refine jr_sipush C sp_4096 dX12_leadsFromRoots_19 ?_
  refine jr_iload_n C 1 rfl rfl dX12_leadsFromRoots_22 ?_
  refine jr_iload_n C 2 rfl rfl dX12_leadsFromRoots_23 ?_
  refine jr_bind (fun q11 e12 => ?_)
  refine jr_callVI C FX_10 km_X12_578 oS_0.1 oS_0.2 (rk hR rfl) (c_Mo_leadsFromRange (gl G) 3072 4096 v1 v2 s e12) rfl rfl rfl (Nat.le_of_ble_eq_true rfl) dX12_leadsFromRoots_24 ?_
  refine jr_if_eq C (tgt := 34) dX12_leadsFromRoots_27 (by decide) (fun h13 => ?_) (fun h13 => ?_)
  · refine jo_pos h13 ?_
    refine jr_iconst C ic_0 dX12_leadsFromRoots_34 ?_
    exact t_Mo_leadsFromRoots_J35 G hR hL C  v1 v2 0 s hr
  refine jo_neg h13 ?_
  exact t_Mo_leadsFromRoots_J30 G hR hL C  v1 v2 s hr
set_option maxRecDepth 100000 in
theorem c_Mo_leadsFromRoots (l : Launch)  (v1 : Int32) (v2 : Int32) (s : St) {q : Int32} (h : f_Mo_leadsFromRoots v1 v2 s = some q) : CT SM l yX12_leadsFromRoots cX12_leadsFromRoots 5 (some .boolean) 2 49 (fun a => [.ref (a 0), .int v1, .int v2]) s s (fun _ => some (.int q)) :=
  ct_Z okX_M (by decide) (fun _ => Nat.le_of_ble_eq_true rfl) (fun G hl hR hL C hr => t_Mo_leadsFromRoots G hR hL C (Acc := fun v => v = q)  v1 v2 s (fun v hv => by rw [hv]; exact hr) ⟨_, h, rfl⟩)
noncomputable def f_Mo_leadsFromBlock (v1 : Int32) (v2 : Int32) (v3 : Int32) (s : St) : Option Int32 :=
  gd v1 202 <|
  gd v1 202 <|
  gd v1 202 <|
  (f_Mo_leadsFromRange (s.1 28 (v1 : Int32).toNatClampNeg) ((s.1 28 (v1 : Int32).toNatClampNeg) + (s.1 29 (v1 : Int32).toNatClampNeg)) v2 v3 s).bind fun q1 =>
  some (bN q1)
set_option maxHeartbeats 4000000 in
set_option maxRecDepth 100000 in
theorem t_Mo_leadsFromBlock (G : GG) (hR : gR G = rmx 2 49) (hL : gL G = 4) (C : Cx SM G cX12_leadsFromBlock RX12) {Acc : Int32 → Prop}  (v1 : Int32) (v2 : Int32) (v3 : Int32) (s : St) (hr : ∀ v : Int32, Acc v → RtZ SM G cX12_leadsFromBlock v s) : JJ SM G Acc (f_Mo_leadsFromBlock v1 v2 v3 s) 0 [(0, .ref (ad G 0)), (1, .int v1), (2, .int v2), (3, .int v3)] [] s := by
  unfold f_Mo_leadsFromBlock
  refine jr_aload_n C 0 rfl rfl dX12_leadsFromBlock_0 ?_
  refine jr_aload_n C 0 rfl rfl dX12_leadsFromBlock_1 ?_
  refine jr_getR C FX_10 45 oS_0.1 oS_0.2 ff_10_45.1 ff_10_45.2 rfl fl_X12_100 dX12_leadsFromBlock_2 ?_
  refine jr_iload_n C 1 rfl rfl dX12_leadsFromBlock_5 ?_
  refine jr_iald C oS_28.1 oS_28.2.1 oS_28.2.2 dX12_leadsFromBlock_6 ?_
  refine jr_aload_n C 0 rfl rfl dX12_leadsFromBlock_7 ?_
  refine jr_getR C FX_10 45 oS_0.1 oS_0.2 ff_10_45.1 ff_10_45.2 rfl fl_X12_100 dX12_leadsFromBlock_8 ?_
  refine jr_iload_n C 1 rfl rfl dX12_leadsFromBlock_11 ?_
  refine jr_iald C oS_28.1 oS_28.2.1 oS_28.2.2 dX12_leadsFromBlock_12 ?_
  refine jr_aload_n C 0 rfl rfl dX12_leadsFromBlock_13 ?_
  refine jr_getR C FX_10 46 oS_0.1 oS_0.2 ff_10_46.1 ff_10_46.2 rfl fl_X12_103 dX12_leadsFromBlock_14 ?_
  refine jr_iload_n C 1 rfl rfl dX12_leadsFromBlock_17 ?_
  refine jr_iald C oS_29.1 oS_29.2.1 oS_29.2.2 dX12_leadsFromBlock_18 ?_
  refine jr_iadd C dX12_leadsFromBlock_19 ?_
  refine jr_iload_n C 2 rfl rfl dX12_leadsFromBlock_20 ?_
  refine jr_iload_n C 3 rfl rfl dX12_leadsFromBlock_21 ?_
  refine jr_bind (fun q1 e2 => ?_)
  refine jr_callVI C FX_10 km_X12_578 oS_0.1 oS_0.2 (rk hR rfl) (c_Mo_leadsFromRange (gl G) (s.1 28 (v1 : Int32).toNatClampNeg) ((s.1 28 (v1 : Int32).toNatClampNeg) + (s.1 29 (v1 : Int32).toNatClampNeg)) v2 v3 s e2) rfl rfl rfl (Nat.le_of_ble_eq_true rfl) dX12_leadsFromBlock_22 ?_
  exact jr_end (fun h => hr (bN q1) h _ _ _ rfl dX12_leadsFromBlock_25)
set_option maxRecDepth 100000 in
theorem c_Mo_leadsFromBlock (l : Launch)  (v1 : Int32) (v2 : Int32) (v3 : Int32) (s : St) {q : Int32} (h : f_Mo_leadsFromBlock v1 v2 v3 s = some q) : CT SM l yX12_leadsFromBlock cX12_leadsFromBlock 4 (some .boolean) 2 49 (fun a => [.ref (a 0), .int v1, .int v2, .int v3]) s s (fun _ => some (.int q)) :=
  ct_Z okX_M (by decide) (fun _ => Nat.le_of_ble_eq_true rfl) (fun G hl hR hL C hr => t_Mo_leadsFromBlock G hR hL C (Acc := fun v => v = q)  v1 v2 v3 s (fun v hv => by rw [hv]; exact hr) ⟨_, h, rfl⟩)
noncomputable def f_Mo_reached (v1 : Int32) (v2 : Int32) (s : St) : Option (Int32 × St) :=
  gd v1 101 <|
  lt (uI s 48 (v1 : Int32).toNatClampNeg v2) fun s1 =>
  some (1, s1)
set_option maxHeartbeats 4000000 in
set_option maxRecDepth 100000 in
theorem t_Mo_reached (G : GG) (hR : gR G = rmx 0 0) (hL : gL G = 3) (C : Cx SM G cX12_reached RX12) {Acc : (Int32 × St) → Prop}  (v1 : Int32) (v2 : Int32) (s : St) (hr : ∀ v : (Int32 × St), Acc v → RtZ SM G cX12_reached v.1 v.2) : JJ SM G Acc (f_Mo_reached v1 v2 s) 0 [(0, .ref (ad G 0)), (1, .int v1), (2, .int v2)] [] s := by
  unfold f_Mo_reached
  refine jr_aload_n C 0 rfl rfl dX12_reached_0 ?_
  refine jr_getR C FX_10 74 oS_0.1 oS_0.2 ff_10_74.1 ff_10_74.2 rfl fl_X12_160 dX12_reached_1 ?_
  refine jr_iload_n C 1 rfl rfl dX12_reached_4 ?_
  refine jr_iload_n C 2 rfl rfl dX12_reached_5 ?_
  refine jr_iast C oS_48.1 oS_48.2.1 oS_48.2.2 dX12_reached_6 (jr_ltS fun s1 => ?_)
  refine jr_iconst C ic_1 dX12_reached_7 ?_
  exact jr_end (fun h => hr (1, s1) h _ _ _ bN1 dX12_reached_8)
set_option maxRecDepth 100000 in
theorem c_Mo_reached (l : Launch)  (v1 : Int32) (v2 : Int32) (s : St) {q : (Int32 × St)} (h : f_Mo_reached v1 v2 s = some q) : CT SM l yX12_reached cX12_reached 3 (some .boolean) 0 0 (fun a => [.ref (a 0), .int v1, .int v2]) s q.2 (fun _ => some (.int q.1)) :=
  ct_Z okX_M (by decide) (fun _ => Nat.le_of_ble_eq_true rfl) (fun G hl hR hL C hr => t_Mo_reached G hR hL C (Acc := fun v => v = q)  v1 v2 s (fun v hv => by rw [hv]; exact hr) ⟨_, h, rfl⟩)
noncomputable def f_Mo_findLost_J45_1 (v1 : Int32) (w0 : Int32) (w1 : Int32) (s : St) : Option ((Int32 × St) ⊕ (Int32 × St)) :=
  gd w1 101 <|
  lt (uI s 48 (w1 : Int32).toNatClampNeg w0) fun s6 =>
  some (.inl ((v1 + 1), s6))
set_option maxHeartbeats 4000000 in
set_option maxRecDepth 100000 in
theorem t_Mo_findLost_J45_1 (G : GG) (hR : gR G = rmx 3 73) (hL : gL G = 4) (C : Cx SM G cX12_findLost RX12) {Acc : ((Int32 × St) ⊕ (Int32 × St)) → Prop}  (v1 : Int32) (w0 : Int32) (w1 : Int32) (s : St) (hb1 : ∀ (a1 : Int32) (t : St), Acc (.inl (a1, t)) → KK SM G 2 [(0, .ref (ad G 0)), (1, .int a1)] [] t) (hx1 : ∀ (a1 : Int32) (t : St), Acc (.inr (a1, t)) → KK SM G 52 [(0, .ref (ad G 0)), (1, .int a1)] [] t) : JJ SM G Acc (f_Mo_findLost_J45_1 v1 w0 w1 s) 45 [(0, .ref (ad G 0)), (1, .int v1)] [.int w0, .int w1, .ref (ad G 48)] s := by
  unfold f_Mo_findLost_J45_1
  refine jr_iast C oS_48.1 oS_48.2.1 oS_48.2.2 dX12_findLost_45 (jr_ltS fun s6 => ?_)
  refine jr_iinc C 1 rfl ii_1 (lv' := [(1, .int (v1 + 1)), (0, .ref (ad G 0))]) (ltL hL rfl) rfl dX12_findLost_46 ?_
  refine jr_goto C (tgt := 2) dX12_findLost_49 (by decide) ?_
  refine jr_lv [1, 0] rfl ?_
  exact jr_end (fun h => hb1 (v1 + 1) s6 h)
noncomputable def f_Mo_findLost_L2 (v1 : Int32) (s : St) : Option ((Int32 × St) ⊕ (Int32 × St)) :=
  gd 0 2 <|
  if (s.1 34 (0 : Int32).toNatClampNeg) < v1 then
  some (.inr (v1, s))
  else
  gd v1 202 <|
  if (s.1 30 (v1 : Int32).toNatClampNeg) = 2 then
  ((f_Mo_leadsFromRoots v1 0 s).bind fun q3 =>
  if q3 = 0 then
  f_Mo_findLost_J45_1 v1 0 v1 s
  else
  f_Mo_findLost_J45_1 v1 3 v1 s)
  else
  f_Mo_findLost_J45_1 v1 (-1) v1 s
set_option maxHeartbeats 4000000 in
set_option maxRecDepth 100000 in
theorem t_Mo_findLost_L2 (G : GG) (hR : gR G = rmx 3 73) (hL : gL G = 4) (C : Cx SM G cX12_findLost RX12) {Acc : ((Int32 × St) ⊕ (Int32 × St)) → Prop}  (v1 : Int32) (s : St) (hb1 : ∀ (a1 : Int32) (t : St), Acc (.inl (a1, t)) → KK SM G 2 [(0, .ref (ad G 0)), (1, .int a1)] [] t) (hx1 : ∀ (a1 : Int32) (t : St), Acc (.inr (a1, t)) → KK SM G 52 [(0, .ref (ad G 0)), (1, .int a1)] [] t) : JJ SM G Acc (f_Mo_findLost_L2 v1 s) 2 [(0, .ref (ad G 0)), (1, .int v1)] [] s := by
  unfold f_Mo_findLost_L2
  refine jr_iload_n C 1 rfl rfl dX12_findLost_2 ?_
  refine jr_aload_n C 0 rfl rfl dX12_findLost_3 ?_
  refine jr_getR C FX_10 51 oS_0.1 oS_0.2 ff_10_51.1 ff_10_51.2 rfl fl_X12_118 dX12_findLost_4 ?_
  refine jr_iconst C ic_0 dX12_findLost_7 ?_
  refine jr_iald C oS_34.1 oS_34.2.1 oS_34.2.2 dX12_findLost_8 ?_
  refine jr_icmp_gt C (tgt := 52) dX12_findLost_9 (by decide) (fun h1 => ?_) (fun h1 => ?_)
  · refine jo_pos h1 ?_
    exact jr_end (fun h => hx1 v1 s h)
  refine jo_neg h1 ?_
  refine jr_aload_n C 0 rfl rfl dX12_findLost_12 ?_
  refine jr_getR C FX_10 74 oS_0.1 oS_0.2 ff_10_74.1 ff_10_74.2 rfl fl_X12_160 dX12_findLost_13 ?_
  refine jr_iload_n C 1 rfl rfl dX12_findLost_16 ?_
  refine jr_aload_n C 0 rfl rfl dX12_findLost_17 ?_
  refine jr_getR C FX_10 47 oS_0.1 oS_0.2 ff_10_47.1 ff_10_47.2 rfl fl_X12_106 dX12_findLost_18 ?_
  refine jr_iload_n C 1 rfl rfl dX12_findLost_21 ?_
  refine jr_iald C oS_30.1 oS_30.2.1 oS_30.2.2 dX12_findLost_22 ?_
  refine jr_iconst C ic_2 dX12_findLost_23 ?_
  refine jr_icmp_eq C (tgt := 31) dX12_findLost_24 (by decide) (fun h2 => ?_) (fun h2 => ?_)
  · refine jo_pos h2 ?_
    refine jr_aload_n C 0 rfl rfl dX12_findLost_31 ?_
    refine jr_iload_n C 1 rfl rfl dX12_findLost_32 ?_
    refine jr_iconst C ic_0 dX12_findLost_33 ?_
    refine jr_bind (fun q3 e4 => ?_)
    refine jr_callVI C FX_10 km_X12_582 oS_0.1 oS_0.2 (rk hR rfl) (c_Mo_leadsFromRoots (gl G) v1 0 s e4) rfl rfl rfl (Nat.le_of_ble_eq_true rfl) dX12_findLost_34 ?_
    refine jr_if_eq C (tgt := 44) dX12_findLost_37 (by decide) (fun h5 => ?_) (fun h5 => ?_)
    · refine jo_pos h5 ?_
      refine jr_iconst C ic_0 dX12_findLost_44 ?_
      exact t_Mo_findLost_J45_1 G hR hL C  v1 0 v1 s hb1 hx1
    refine jo_neg h5 ?_
    refine jr_iconst C ic_3 dX12_findLost_40 ?_
    refine jr_goto C (tgt := 45) dX12_findLost_41 (by decide) ?_
    exact t_Mo_findLost_J45_1 G hR hL C  v1 3 v1 s hb1 hx1
  refine jo_neg h2 ?_
  refine jr_iconst C ic_m1 dX12_findLost_27 ?_
  refine jr_goto C (tgt := 45) dX12_findLost_28 (by decide) ?_
  exact t_Mo_findLost_J45_1 G hR hL C  v1 (-1) v1 s hb1 hx1
noncomputable def f_Mo_findLost_J120_3 (v1 : Int32) (v2 : Int32) (v3 : Int32) (s : St) : Option ((Int32 × Int32 × St) ⊕ (Int32 × Int32 × St)) :=
  some (.inl (v1, (v3 + 1), s))
set_option maxHeartbeats 4000000 in
set_option maxRecDepth 100000 in
theorem t_Mo_findLost_J120_3 (G : GG) (hR : gR G = rmx 3 73) (hL : gL G = 4) (C : Cx SM G cX12_findLost RX12) {Acc : ((Int32 × Int32 × St) ⊕ (Int32 × Int32 × St)) → Prop}  (v1 : Int32) (v2 : Int32) (v3 : Int32) (s : St) (hb3 : ∀ (a1 : Int32) (a3 : Int32) (t : St), Acc (.inl (a1, a3, t)) → KK SM G 74 [(0, .ref (ad G 0)), (1, .int a1), (2, .int v2), (3, .int a3)] [] t) (hx3 : ∀ (a1 : Int32) (a3 : Int32) (t : St), Acc (.inr (a1, a3, t)) → KK SM G 126 [(0, .ref (ad G 0)), (1, .int a1), (2, .int v2), (3, .int a3)] [] t) : JJ SM G Acc (f_Mo_findLost_J120_3 v1 v2 v3 s) 120 [(0, .ref (ad G 0)), (1, .int v1), (2, .int v2), (3, .int v3)] [] s := by
  unfold f_Mo_findLost_J120_3
  refine jr_iinc C 3 rfl ii_1 (lv' := [(3, .int (v3 + 1)), (0, .ref (ad G 0)), (1, .int v1), (2, .int v2)]) (ltL hL rfl) rfl dX12_findLost_120 ?_
  refine jr_goto C (tgt := 74) dX12_findLost_123 (by decide) ?_
  refine jr_lv [1, 2, 3, 0] rfl ?_
  exact jr_end (fun h => hb3 v1 (v3 + 1) s h)
noncomputable def f_Mo_findLost_L74_3 (v1 : Int32) (v2 : Int32) (v3 : Int32) (s : St) : Option ((Int32 × Int32 × St) ⊕ (Int32 × Int32 × St)) :=
  gd 0 2 <|
  if (s.1 34 (0 : Int32).toNatClampNeg) < v3 then
  some (.inr (v1, v3, s))
  else
  gd v2 101 <|
  if (s.1 48 (v2 : Int32).toNatClampNeg) = 0 then
  (gd v3 101 <|
  if (s.1 48 (v3 : Int32).toNatClampNeg) = 3 then
  ((f_Mo_leadsFromBlock v3 v2 0 s).bind fun q13 =>
  if q13 = 0 then
  f_Mo_findLost_J120_3 v1 v2 v3 s
  else
  (f_Mo_reached v2 3 s).bind fun q16 =>
  lt (q16.1) fun x18 =>
  f_Mo_findLost_J120_3 x18 v2 v3 (q16.2))
  else
  f_Mo_findLost_J120_3 v1 v2 v3 s)
  else
  some (.inr (v1, v3, s))
set_option maxHeartbeats 4000000 in
set_option maxRecDepth 100000 in
theorem t_Mo_findLost_L74_3 (G : GG) (hR : gR G = rmx 3 73) (hL : gL G = 4) (C : Cx SM G cX12_findLost RX12) {Acc : ((Int32 × Int32 × St) ⊕ (Int32 × Int32 × St)) → Prop}  (v1 : Int32) (v2 : Int32) (v3 : Int32) (s : St) (hb3 : ∀ (a1 : Int32) (a3 : Int32) (t : St), Acc (.inl (a1, a3, t)) → KK SM G 74 [(0, .ref (ad G 0)), (1, .int a1), (2, .int v2), (3, .int a3)] [] t) (hx3 : ∀ (a1 : Int32) (a3 : Int32) (t : St), Acc (.inr (a1, a3, t)) → KK SM G 126 [(0, .ref (ad G 0)), (1, .int a1), (2, .int v2), (3, .int a3)] [] t) : JJ SM G Acc (f_Mo_findLost_L74_3 v1 v2 v3 s) 74 [(0, .ref (ad G 0)), (1, .int v1), (2, .int v2), (3, .int v3)] [] s := by
  unfold f_Mo_findLost_L74_3
  refine jr_iload_n C 3 rfl rfl dX12_findLost_74 ?_
  refine jr_aload_n C 0 rfl rfl dX12_findLost_75 ?_
  refine jr_getR C FX_10 51 oS_0.1 oS_0.2 ff_10_51.1 ff_10_51.2 rfl fl_X12_118 dX12_findLost_76 ?_
  refine jr_iconst C ic_0 dX12_findLost_79 ?_
  refine jr_iald C oS_34.1 oS_34.2.1 oS_34.2.2 dX12_findLost_80 ?_
  refine jr_icmp_gt C (tgt := 126) dX12_findLost_81 (by decide) (fun h10 => ?_) (fun h10 => ?_)
  · refine jo_pos h10 ?_
    exact jr_end (fun h => hx3 v1 v3 s h)
  refine jo_neg h10 ?_
  refine jr_aload_n C 0 rfl rfl dX12_findLost_84 ?_
  refine jr_getR C FX_10 74 oS_0.1 oS_0.2 ff_10_74.1 ff_10_74.2 rfl fl_X12_160 dX12_findLost_85 ?_
  refine jr_iload_n C 2 rfl rfl dX12_findLost_88 ?_
  refine jr_iald C oS_48.1 oS_48.2.1 oS_48.2.2 dX12_findLost_89 ?_
  refine jr_if_ne C (tgt := 126) dX12_findLost_90 (by decide) (fun h11 => ?_) (fun h11 => ?_)
  · refine jo_neg h11 ?_
    exact jr_end (fun h => hx3 v1 v3 s h)
  refine jo_pos h11 ?_
  refine jr_aload_n C 0 rfl rfl dX12_findLost_93 ?_
  refine jr_getR C FX_10 74 oS_0.1 oS_0.2 ff_10_74.1 ff_10_74.2 rfl fl_X12_160 dX12_findLost_94 ?_
  refine jr_iload_n C 3 rfl rfl dX12_findLost_97 ?_
  refine jr_iald C oS_48.1 oS_48.2.1 oS_48.2.2 dX12_findLost_98 ?_
  refine jr_iconst C ic_3 dX12_findLost_99 ?_
  refine jr_icmp_ne C (tgt := 120) dX12_findLost_100 (by decide) (fun h12 => ?_) (fun h12 => ?_)
  · refine jo_neg h12 ?_
    exact t_Mo_findLost_J120_3 G hR hL C  v1 v2 v3 s hb3 hx3
  refine jo_pos h12 ?_
  refine jr_aload_n C 0 rfl rfl dX12_findLost_103 ?_
  refine jr_iload_n C 3 rfl rfl dX12_findLost_104 ?_
  refine jr_iload_n C 2 rfl rfl dX12_findLost_105 ?_
  refine jr_iconst C ic_0 dX12_findLost_106 ?_
  refine jr_bind (fun q13 e14 => ?_)
  refine jr_callVI C FX_10 km_X12_586 oS_0.1 oS_0.2 (rk hR rfl) (c_Mo_leadsFromBlock (gl G) v3 v2 0 s e14) rfl rfl rfl (Nat.le_of_ble_eq_true rfl) dX12_findLost_107 ?_
  refine jr_if_eq C (tgt := 120) dX12_findLost_110 (by decide) (fun h15 => ?_) (fun h15 => ?_)
  · refine jo_pos h15 ?_
    exact t_Mo_findLost_J120_3 G hR hL C  v1 v2 v3 s hb3 hx3
  refine jo_neg h15 ?_
  refine jr_aload_n C 0 rfl rfl dX12_findLost_113 ?_
  refine jr_iload_n C 2 rfl rfl dX12_findLost_114 ?_
  refine jr_iconst C ic_3 dX12_findLost_115 ?_
  refine jr_bind (fun q16 e17 => ?_)
  refine jr_callVI C FX_10 km_X12_589 oS_0.1 oS_0.2 (rk hR rfl) (c_Mo_reached (gl G) v2 3 s e17) rfl rfl rfl (Nat.le_of_ble_eq_true rfl) dX12_findLost_116 ?_
  refine jr_ltI (fun x18 => ?_)
  refine jr_istore_n C (lv' := [(1, .int x18), (0, .ref (ad G 0)), (2, .int v2), (3, .int v3)]) (ltL hL rfl) rfl rfl dX12_findLost_119 ?_
  refine jr_lv [1, 0, 2, 3] rfl ?_
  exact t_Mo_findLost_J120_3 G hR hL C  x18 v2 v3 (q16.2) hb3 hx3
noncomputable def f_Mo_findLost_L62_2 (v1 : Int32) (v2 : Int32) (s : St) : Option ((Int32 × Int32 × St) ⊕ (Int32 × Int32 × St)) :=
  gd 0 2 <|
  if (s.1 34 (0 : Int32).toNatClampNeg) < v2 then
  some (.inr (v1, v2, s))
  else
  (wh (fun a : (Int32 × Int32 × St) => f_Mo_findLost_L74_3 a.1 v2 a.2.1 a.2.2) (v1, 1, s)).bind (fun b19 =>
  some (.inl (b19.1, (v2 + 1), b19.2.2)))
set_option maxHeartbeats 4000000 in
set_option maxRecDepth 100000 in
theorem t_Mo_findLost_L62_2 (G : GG) (hR : gR G = rmx 3 73) (hL : gL G = 4) (C : Cx SM G cX12_findLost RX12) {Acc : ((Int32 × Int32 × St) ⊕ (Int32 × Int32 × St)) → Prop}  (v1 : Int32) (v2 : Int32) (s : St) (hb2 : ∀ (a1 : Int32) (a2 : Int32) (t : St), Acc (.inl (a1, a2, t)) → KK SM G 62 [(0, .ref (ad G 0)), (1, .int a1), (2, .int a2)] [] t) (hx2 : ∀ (a1 : Int32) (a2 : Int32) (t : St), Acc (.inr (a1, a2, t)) → KK SM G 132 [(0, .ref (ad G 0)), (1, .int a1), (2, .int a2)] [] t) : JJ SM G Acc (f_Mo_findLost_L62_2 v1 v2 s) 62 [(0, .ref (ad G 0)), (1, .int v1), (2, .int v2)] [] s := by
  unfold f_Mo_findLost_L62_2
  refine jr_iload_n C 2 rfl rfl dX12_findLost_62 ?_
  refine jr_aload_n C 0 rfl rfl dX12_findLost_63 ?_
  refine jr_getR C FX_10 51 oS_0.1 oS_0.2 ff_10_51.1 ff_10_51.2 rfl fl_X12_118 dX12_findLost_64 ?_
  refine jr_iconst C ic_0 dX12_findLost_67 ?_
  refine jr_iald C oS_34.1 oS_34.2.1 oS_34.2.2 dX12_findLost_68 ?_
  refine jr_icmp_gt C (tgt := 132) dX12_findLost_69 (by decide) (fun h9 => ?_) (fun h9 => ?_)
  · refine jo_pos h9 ?_
    exact jr_end (fun h => hx2 v1 v2 s h)
  refine jo_neg h9 ?_
  refine jr_iconst C ic_1 dX12_findLost_72 ?_
  refine jr_istore_n C (lv' := [(3, .int 1), (0, .ref (ad G 0)), (1, .int v1), (2, .int v2)]) (ltL hL rfl) rfl rfl dX12_findLost_73 ?_
  refine jr_lv [1, 2, 3, 0] rfl ?_
  refine jr_loopB (pc := 74) (pcx := 126) (f := fun a : (Int32 × Int32 × St) => f_Mo_findLost_L74_3 a.1 v2 a.2.1 a.2.2) (fun a : (Int32 × Int32 × St) => [(0, .ref (ad G 0)), (1, .int (a.1)), (2, .int v2), (3, .int (a.2.1))]) (fun a : (Int32 × Int32 × St) => a.2.2) (v1, 1, s) (fun a => t_Mo_findLost_L74_3 G hR hL C  a.1 v2 a.2.1 a.2.2 (fun _ _ _ h => h) (fun _ _ _ h => h)) (fun b19 => ?_)
  refine jr_iinc C 2 rfl ii_1 (lv' := [(2, .int (v2 + 1)), (0, .ref (ad G 0)), (1, .int (b19.1)), (3, .int (b19.2.1))]) (ltL hL rfl) rfl dX12_findLost_126 ?_
  refine jr_goto C (tgt := 62) dX12_findLost_129 (by decide) ?_
  refine jr_lv [1, 2, 0] rfl ?_
  exact jr_end (fun h => hb2 (b19.1) (v2 + 1) (b19.2.2) h)
noncomputable def f_Mo_findLost_L54 (v1 : Int32) (s : St) : Option ((Int32 × St) ⊕ (Int32 × St)) :=
  if v1 = 0 then
  some (.inr (v1, s))
  else
  (wh (fun a : (Int32 × Int32 × St) => f_Mo_findLost_L62_2 a.1 a.2.1 a.2.2) (0, 1, s)).bind (fun b20 =>
  some (.inl (b20.1, b20.2.2)))
set_option maxHeartbeats 4000000 in
set_option maxRecDepth 100000 in
theorem t_Mo_findLost_L54 (G : GG) (hR : gR G = rmx 3 73) (hL : gL G = 4) (C : Cx SM G cX12_findLost RX12) {Acc : ((Int32 × St) ⊕ (Int32 × St)) → Prop}  (v1 : Int32) (s : St) (hb1 : ∀ (a1 : Int32) (t : St), Acc (.inl (a1, t)) → KK SM G 54 [(0, .ref (ad G 0)), (1, .int a1)] [] t) (hx1 : ∀ (a1 : Int32) (t : St), Acc (.inr (a1, t)) → KK SM G 135 [(0, .ref (ad G 0)), (1, .int a1)] [] t) : JJ SM G Acc (f_Mo_findLost_L54 v1 s) 54 [(0, .ref (ad G 0)), (1, .int v1)] [] s := by
  unfold f_Mo_findLost_L54
  refine jr_iload_n C 1 rfl rfl dX12_findLost_54 ?_
  refine jr_if_eq C (tgt := 135) dX12_findLost_55 (by decide) (fun h8 => ?_) (fun h8 => ?_)
  · refine jo_pos h8 ?_
    exact jr_end (fun h => hx1 v1 s h)
  refine jo_neg h8 ?_
  refine jr_iconst C ic_0 dX12_findLost_58 ?_
  refine jr_istore_n C (lv' := [(1, .int 0), (0, .ref (ad G 0))]) (ltL hL rfl) rfl rfl dX12_findLost_59 ?_
  refine jr_iconst C ic_1 dX12_findLost_60 ?_
  refine jr_istore_n C (lv' := [(2, .int 1), (1, .int 0), (0, .ref (ad G 0))]) (ltL hL rfl) rfl rfl dX12_findLost_61 ?_
  refine jr_lv [2, 1, 0] rfl ?_
  refine jr_loopB (pc := 62) (pcx := 132) (f := fun a : (Int32 × Int32 × St) => f_Mo_findLost_L62_2 a.1 a.2.1 a.2.2) (fun a : (Int32 × Int32 × St) => [(0, .ref (ad G 0)), (1, .int (a.1)), (2, .int (a.2.1))]) (fun a : (Int32 × Int32 × St) => a.2.2) (0, 1, s) (fun a => t_Mo_findLost_L62_2 G hR hL C  a.1 a.2.1 a.2.2 (fun _ _ _ h => h) (fun _ _ _ h => h)) (fun b20 => ?_)
  refine jr_goto C (tgt := 54) dX12_findLost_132 (by decide) ?_
  refine jr_lv [0, 1] rfl ?_
  exact jr_end (fun h => hb1 (b20.1) (b20.2.2) h)
noncomputable def f_Mo_findLost_J172_1 (v2 : Int32) (s : St) : Option ((Int32 × St) ⊕ (Int32 × St)) :=
  some (.inl ((v2 + 1), s))
set_option maxHeartbeats 4000000 in
set_option maxRecDepth 100000 in
theorem t_Mo_findLost_J172_1 (G : GG) (hR : gR G = rmx 3 73) (hL : gL G = 4) (C : Cx SM G cX12_findLost RX12) {Acc : ((Int32 × St) ⊕ (Int32 × St)) → Prop}  (v2 : Int32) (s : St) (hb1 : ∀ (a2 : Int32) (t : St), Acc (.inl (a2, t)) → KK SM G 137 [(0, .ref (ad G 0)), (2, .int a2)] [] t) (hx1 : ∀ (a2 : Int32) (t : St), Acc (.inr (a2, t)) → KK SM G 178 [(0, .ref (ad G 0)), (2, .int a2)] [] t) : JJ SM G Acc (f_Mo_findLost_J172_1 v2 s) 172 [(0, .ref (ad G 0)), (2, .int v2)] [] s := by
  unfold f_Mo_findLost_J172_1
  refine jr_iinc C 1 rfl ii_1 (lv' := [(2, .int (v2 + 1)), (0, .ref (ad G 0))]) (ltL hL rfl) rfl dX12_findLost_172 ?_
  refine jr_goto C (tgt := 137) dX12_findLost_175 (by decide) ?_
  refine jr_lv [1, 0] rfl ?_
  exact jr_end (fun h => hb1 (v2 + 1) s h)
noncomputable def f_Mo_findLost_L137 (v2 : Int32) (s : St) : Option ((Int32 × St) ⊕ (Int32 × St)) :=
  gd 0 2 <|
  if (s.1 34 (0 : Int32).toNatClampNeg) < v2 then
  some (.inr (v2, s))
  else
  gd v2 101 <|
  if (s.1 48 (v2 : Int32).toNatClampNeg) = 0 then
  ((f_Mo_leadsFromRoots v2 1 s).bind fun q24 =>
  if q24 = 0 then
  f_Mo_findLost_J172_1 v2 s
  else
  gd v2 101 <|
  lt (uI s 48 (v2 : Int32).toNatClampNeg 2) fun s27 =>
  f_Mo_findLost_J172_1 v2 s27)
  else
  f_Mo_findLost_J172_1 v2 s
set_option maxHeartbeats 4000000 in
set_option maxRecDepth 100000 in
theorem t_Mo_findLost_L137 (G : GG) (hR : gR G = rmx 3 73) (hL : gL G = 4) (C : Cx SM G cX12_findLost RX12) {Acc : ((Int32 × St) ⊕ (Int32 × St)) → Prop}  (v2 : Int32) (s : St) (hb1 : ∀ (a2 : Int32) (t : St), Acc (.inl (a2, t)) → KK SM G 137 [(0, .ref (ad G 0)), (2, .int a2)] [] t) (hx1 : ∀ (a2 : Int32) (t : St), Acc (.inr (a2, t)) → KK SM G 178 [(0, .ref (ad G 0)), (2, .int a2)] [] t) : JJ SM G Acc (f_Mo_findLost_L137 v2 s) 137 [(0, .ref (ad G 0)), (2, .int v2)] [] s := by
  unfold f_Mo_findLost_L137
  refine jr_iload_n C 1 rfl rfl dX12_findLost_137 ?_
  refine jr_aload_n C 0 rfl rfl dX12_findLost_138 ?_
  refine jr_getR C FX_10 51 oS_0.1 oS_0.2 ff_10_51.1 ff_10_51.2 rfl fl_X12_118 dX12_findLost_139 ?_
  refine jr_iconst C ic_0 dX12_findLost_142 ?_
  refine jr_iald C oS_34.1 oS_34.2.1 oS_34.2.2 dX12_findLost_143 ?_
  refine jr_icmp_gt C (tgt := 178) dX12_findLost_144 (by decide) (fun h22 => ?_) (fun h22 => ?_)
  · refine jo_pos h22 ?_
    exact jr_end (fun h => hx1 v2 s h)
  refine jo_neg h22 ?_
  refine jr_aload_n C 0 rfl rfl dX12_findLost_147 ?_
  refine jr_getR C FX_10 74 oS_0.1 oS_0.2 ff_10_74.1 ff_10_74.2 rfl fl_X12_160 dX12_findLost_148 ?_
  refine jr_iload_n C 1 rfl rfl dX12_findLost_151 ?_
  refine jr_iald C oS_48.1 oS_48.2.1 oS_48.2.2 dX12_findLost_152 ?_
  refine jr_if_ne C (tgt := 172) dX12_findLost_153 (by decide) (fun h23 => ?_) (fun h23 => ?_)
  · refine jo_neg h23 ?_
    exact t_Mo_findLost_J172_1 G hR hL C  v2 s hb1 hx1
  refine jo_pos h23 ?_
  refine jr_aload_n C 0 rfl rfl dX12_findLost_156 ?_
  refine jr_iload_n C 1 rfl rfl dX12_findLost_157 ?_
  refine jr_iconst C ic_1 dX12_findLost_158 ?_
  refine jr_bind (fun q24 e25 => ?_)
  refine jr_callVI C FX_10 km_X12_582 oS_0.1 oS_0.2 (rk hR rfl) (c_Mo_leadsFromRoots (gl G) v2 1 s e25) rfl rfl rfl (Nat.le_of_ble_eq_true rfl) dX12_findLost_159 ?_
  refine jr_if_eq C (tgt := 172) dX12_findLost_162 (by decide) (fun h26 => ?_) (fun h26 => ?_)
  · refine jo_pos h26 ?_
    exact t_Mo_findLost_J172_1 G hR hL C  v2 s hb1 hx1
  refine jo_neg h26 ?_
  refine jr_aload_n C 0 rfl rfl dX12_findLost_165 ?_
  refine jr_getR C FX_10 74 oS_0.1 oS_0.2 ff_10_74.1 ff_10_74.2 rfl fl_X12_160 dX12_findLost_166 ?_
  refine jr_iload_n C 1 rfl rfl dX12_findLost_169 ?_
  refine jr_iconst C ic_2 dX12_findLost_170 ?_
  refine jr_iast C oS_48.1 oS_48.2.1 oS_48.2.2 dX12_findLost_171 (jr_ltS fun s27 => ?_)
  exact t_Mo_findLost_J172_1 G hR hL C  v2 s27 hb1 hx1
noncomputable def f_Mo_findLost_J269_3 (v1 : Int32) (v2 : Int32) (v3 : Int32) (s : St) : Option ((Int32 × Int32 × St) ⊕ (Int32 × Int32 × St)) :=
  some (.inl (v1, (v3 + 1), s))
set_option maxHeartbeats 4000000 in
set_option maxRecDepth 100000 in
theorem t_Mo_findLost_J269_3 (G : GG) (hR : gR G = rmx 3 73) (hL : gL G = 4) (C : Cx SM G cX12_findLost RX12) {Acc : ((Int32 × Int32 × St) ⊕ (Int32 × Int32 × St)) → Prop}  (v1 : Int32) (v2 : Int32) (v3 : Int32) (s : St) (hb3 : ∀ (a1 : Int32) (a3 : Int32) (t : St), Acc (.inl (a1, a3, t)) → KK SM G 200 [(0, .ref (ad G 0)), (1, .int a1), (2, .int v2), (3, .int a3)] [] t) (hx3 : ∀ (a1 : Int32) (a3 : Int32) (t : St), Acc (.inr (a1, a3, t)) → KK SM G 275 [(0, .ref (ad G 0)), (1, .int a1), (2, .int v2), (3, .int a3)] [] t) : JJ SM G Acc (f_Mo_findLost_J269_3 v1 v2 v3 s) 269 [(0, .ref (ad G 0)), (1, .int v1), (2, .int v2), (3, .int v3)] [] s := by
  unfold f_Mo_findLost_J269_3
  refine jr_iinc C 3 rfl ii_1 (lv' := [(3, .int (v3 + 1)), (0, .ref (ad G 0)), (1, .int v1), (2, .int v2)]) (ltL hL rfl) rfl dX12_findLost_269 ?_
  refine jr_goto C (tgt := 200) dX12_findLost_272 (by decide) ?_
  refine jr_lv [1, 2, 3, 0] rfl ?_
  exact jr_end (fun h => hb3 v1 (v3 + 1) s h)
noncomputable def f_Mo_findLost_J262_3 (v2 : Int32) (v3 : Int32) (s : St) : Option ((Int32 × Int32 × St) ⊕ (Int32 × Int32 × St)) :=
  (f_Mo_reached v2 2 s).bind fun q37 =>
  lt (q37.1) fun x39 =>
  f_Mo_findLost_J269_3 x39 v2 v3 (q37.2)
set_option maxHeartbeats 4000000 in
set_option maxRecDepth 100000 in
theorem t_Mo_findLost_J262_3 (G : GG) (hR : gR G = rmx 3 73) (hL : gL G = 4) (C : Cx SM G cX12_findLost RX12) {Acc : ((Int32 × Int32 × St) ⊕ (Int32 × Int32 × St)) → Prop}  (v2 : Int32) (v3 : Int32) (s : St) (hb3 : ∀ (a1 : Int32) (a3 : Int32) (t : St), Acc (.inl (a1, a3, t)) → KK SM G 200 [(0, .ref (ad G 0)), (1, .int a1), (2, .int v2), (3, .int a3)] [] t) (hx3 : ∀ (a1 : Int32) (a3 : Int32) (t : St), Acc (.inr (a1, a3, t)) → KK SM G 275 [(0, .ref (ad G 0)), (1, .int a1), (2, .int v2), (3, .int a3)] [] t) : JJ SM G Acc (f_Mo_findLost_J262_3 v2 v3 s) 262 [(0, .ref (ad G 0)), (2, .int v2), (3, .int v3)] [] s := by
  unfold f_Mo_findLost_J262_3
  refine jr_aload_n C 0 rfl rfl dX12_findLost_262 ?_
  refine jr_iload_n C 1 rfl rfl dX12_findLost_263 ?_
  refine jr_iconst C ic_2 dX12_findLost_264 ?_
  refine jr_bind (fun q37 e38 => ?_)
  refine jr_callVI C FX_10 km_X12_589 oS_0.1 oS_0.2 (rk hR rfl) (c_Mo_reached (gl G) v2 2 s e38) rfl rfl rfl (Nat.le_of_ble_eq_true rfl) dX12_findLost_265 ?_
  refine jr_ltI (fun x39 => ?_)
  refine jr_istore_n C (lv' := [(1, .int x39), (0, .ref (ad G 0)), (2, .int v2), (3, .int v3)]) (ltL hL rfl) rfl rfl dX12_findLost_268 ?_
  refine jr_lv [1, 0, 2, 3] rfl ?_
  exact t_Mo_findLost_J269_3 G hR hL C  x39 v2 v3 (q37.2) hb3 hx3
noncomputable def f_Mo_findLost_L200_3 (v1 : Int32) (v2 : Int32) (v3 : Int32) (s : St) : Option ((Int32 × Int32 × St) ⊕ (Int32 × Int32 × St)) :=
  gd 0 2 <|
  if (s.1 34 (0 : Int32).toNatClampNeg) < v3 then
  some (.inr (v1, v3, s))
  else
  gd v2 101 <|
  if (s.1 48 (v2 : Int32).toNatClampNeg) = 0 then
  (gd v3 101 <|
  if 2 ≤ (s.1 48 (v3 : Int32).toNatClampNeg) then
  ((f_Mo_leadsFromBlock v3 v2 1 s).bind fun q34 =>
  if q34 = 0 then
  (gd v3 101 <|
  if (s.1 48 (v3 : Int32).toNatClampNeg) = 2 then
  ((f_Mo_leadsFromBlock v3 v2 0 s).bind fun q41 =>
  if q41 = 0 then
  f_Mo_findLost_J269_3 v1 v2 v3 s
  else
  f_Mo_findLost_J262_3 v2 v3 s)
  else
  f_Mo_findLost_J269_3 v1 v2 v3 s)
  else
  f_Mo_findLost_J262_3 v2 v3 s)
  else
  f_Mo_findLost_J269_3 v1 v2 v3 s)
  else
  some (.inr (v1, v3, s))
set_option maxHeartbeats 4000000 in
set_option maxRecDepth 100000 in
theorem t_Mo_findLost_L200_3 (G : GG) (hR : gR G = rmx 3 73) (hL : gL G = 4) (C : Cx SM G cX12_findLost RX12) {Acc : ((Int32 × Int32 × St) ⊕ (Int32 × Int32 × St)) → Prop}  (v1 : Int32) (v2 : Int32) (v3 : Int32) (s : St) (hb3 : ∀ (a1 : Int32) (a3 : Int32) (t : St), Acc (.inl (a1, a3, t)) → KK SM G 200 [(0, .ref (ad G 0)), (1, .int a1), (2, .int v2), (3, .int a3)] [] t) (hx3 : ∀ (a1 : Int32) (a3 : Int32) (t : St), Acc (.inr (a1, a3, t)) → KK SM G 275 [(0, .ref (ad G 0)), (1, .int a1), (2, .int v2), (3, .int a3)] [] t) : JJ SM G Acc (f_Mo_findLost_L200_3 v1 v2 v3 s) 200 [(0, .ref (ad G 0)), (1, .int v1), (2, .int v2), (3, .int v3)] [] s := by
  unfold f_Mo_findLost_L200_3
  refine jr_iload_n C 3 rfl rfl dX12_findLost_200 ?_
  refine jr_aload_n C 0 rfl rfl dX12_findLost_201 ?_
  refine jr_getR C FX_10 51 oS_0.1 oS_0.2 ff_10_51.1 ff_10_51.2 rfl fl_X12_118 dX12_findLost_202 ?_
  refine jr_iconst C ic_0 dX12_findLost_205 ?_
  refine jr_iald C oS_34.1 oS_34.2.1 oS_34.2.2 dX12_findLost_206 ?_
  refine jr_icmp_gt C (tgt := 275) dX12_findLost_207 (by decide) (fun h31 => ?_) (fun h31 => ?_)
  · refine jo_pos h31 ?_
    exact jr_end (fun h => hx3 v1 v3 s h)
  refine jo_neg h31 ?_
  refine jr_aload_n C 0 rfl rfl dX12_findLost_210 ?_
  refine jr_getR C FX_10 74 oS_0.1 oS_0.2 ff_10_74.1 ff_10_74.2 rfl fl_X12_160 dX12_findLost_211 ?_
  refine jr_iload_n C 2 rfl rfl dX12_findLost_214 ?_
  refine jr_iald C oS_48.1 oS_48.2.1 oS_48.2.2 dX12_findLost_215 ?_
  refine jr_if_ne C (tgt := 275) dX12_findLost_216 (by decide) (fun h32 => ?_) (fun h32 => ?_)
  · refine jo_neg h32 ?_
    exact jr_end (fun h => hx3 v1 v3 s h)
  refine jo_pos h32 ?_
  refine jr_aload_n C 0 rfl rfl dX12_findLost_219 ?_
  refine jr_getR C FX_10 74 oS_0.1 oS_0.2 ff_10_74.1 ff_10_74.2 rfl fl_X12_160 dX12_findLost_220 ?_
  refine jr_iload_n C 3 rfl rfl dX12_findLost_223 ?_
  refine jr_iald C oS_48.1 oS_48.2.1 oS_48.2.2 dX12_findLost_224 ?_
  refine jr_iconst C ic_2 dX12_findLost_225 ?_
  refine jr_icmp_ge C (tgt := 232) dX12_findLost_226 (by decide) (fun h33 => ?_) (fun h33 => ?_)
  · refine jo_pos h33 ?_
    refine jr_aload_n C 0 rfl rfl dX12_findLost_232 ?_
    refine jr_iload_n C 3 rfl rfl dX12_findLost_233 ?_
    refine jr_iload_n C 2 rfl rfl dX12_findLost_234 ?_
    refine jr_iconst C ic_1 dX12_findLost_235 ?_
    refine jr_bind (fun q34 e35 => ?_)
    refine jr_callVI C FX_10 km_X12_586 oS_0.1 oS_0.2 (rk hR rfl) (c_Mo_leadsFromBlock (gl G) v3 v2 1 s e35) rfl rfl rfl (Nat.le_of_ble_eq_true rfl) dX12_findLost_236 ?_
    refine jr_if_ne C (tgt := 262) dX12_findLost_239 (by decide) (fun h36 => ?_) (fun h36 => ?_)
    · refine jo_neg h36 ?_
      refine jr_lv [0, 2, 3] rfl ?_
      exact t_Mo_findLost_J262_3 G hR hL C  v2 v3 s hb3 hx3
    refine jo_pos h36 ?_
    refine jr_aload_n C 0 rfl rfl dX12_findLost_242 ?_
    refine jr_getR C FX_10 74 oS_0.1 oS_0.2 ff_10_74.1 ff_10_74.2 rfl fl_X12_160 dX12_findLost_243 ?_
    refine jr_iload_n C 3 rfl rfl dX12_findLost_246 ?_
    refine jr_iald C oS_48.1 oS_48.2.1 oS_48.2.2 dX12_findLost_247 ?_
    refine jr_iconst C ic_2 dX12_findLost_248 ?_
    refine jr_icmp_ne C (tgt := 269) dX12_findLost_249 (by decide) (fun h40 => ?_) (fun h40 => ?_)
    · refine jo_neg h40 ?_
      exact t_Mo_findLost_J269_3 G hR hL C  v1 v2 v3 s hb3 hx3
    refine jo_pos h40 ?_
    refine jr_aload_n C 0 rfl rfl dX12_findLost_252 ?_
    refine jr_iload_n C 3 rfl rfl dX12_findLost_253 ?_
    refine jr_iload_n C 2 rfl rfl dX12_findLost_254 ?_
    refine jr_iconst C ic_0 dX12_findLost_255 ?_
    refine jr_bind (fun q41 e42 => ?_)
    refine jr_callVI C FX_10 km_X12_586 oS_0.1 oS_0.2 (rk hR rfl) (c_Mo_leadsFromBlock (gl G) v3 v2 0 s e42) rfl rfl rfl (Nat.le_of_ble_eq_true rfl) dX12_findLost_256 ?_
    refine jr_if_eq C (tgt := 269) dX12_findLost_259 (by decide) (fun h43 => ?_) (fun h43 => ?_)
    · refine jo_pos h43 ?_
      exact t_Mo_findLost_J269_3 G hR hL C  v1 v2 v3 s hb3 hx3
    refine jo_neg h43 ?_
    refine jr_lv [0, 2, 3] rfl ?_
    exact t_Mo_findLost_J262_3 G hR hL C  v2 v3 s hb3 hx3
  refine jo_neg h33 ?_
  refine jr_goto C (tgt := 269) dX12_findLost_229 (by decide) ?_
  exact t_Mo_findLost_J269_3 G hR hL C  v1 v2 v3 s hb3 hx3
noncomputable def f_Mo_findLost_L188_2 (v1 : Int32) (v2 : Int32) (s : St) : Option ((Int32 × Int32 × St) ⊕ (Int32 × Int32 × St)) :=
  gd 0 2 <|
  if (s.1 34 (0 : Int32).toNatClampNeg) < v2 then
  some (.inr (v1, v2, s))
  else
  (wh (fun a : (Int32 × Int32 × St) => f_Mo_findLost_L200_3 a.1 v2 a.2.1 a.2.2) (v1, 1, s)).bind (fun b44 =>
  some (.inl (b44.1, (v2 + 1), b44.2.2)))
set_option maxHeartbeats 4000000 in
set_option maxRecDepth 100000 in
theorem t_Mo_findLost_L188_2 (G : GG) (hR : gR G = rmx 3 73) (hL : gL G = 4) (C : Cx SM G cX12_findLost RX12) {Acc : ((Int32 × Int32 × St) ⊕ (Int32 × Int32 × St)) → Prop}  (v1 : Int32) (v2 : Int32) (s : St) (hb2 : ∀ (a1 : Int32) (a2 : Int32) (t : St), Acc (.inl (a1, a2, t)) → KK SM G 188 [(0, .ref (ad G 0)), (1, .int a1), (2, .int a2)] [] t) (hx2 : ∀ (a1 : Int32) (a2 : Int32) (t : St), Acc (.inr (a1, a2, t)) → KK SM G 281 [(0, .ref (ad G 0)), (1, .int a1), (2, .int a2)] [] t) : JJ SM G Acc (f_Mo_findLost_L188_2 v1 v2 s) 188 [(0, .ref (ad G 0)), (1, .int v1), (2, .int v2)] [] s := by
  unfold f_Mo_findLost_L188_2
  refine jr_iload_n C 2 rfl rfl dX12_findLost_188 ?_
  refine jr_aload_n C 0 rfl rfl dX12_findLost_189 ?_
  refine jr_getR C FX_10 51 oS_0.1 oS_0.2 ff_10_51.1 ff_10_51.2 rfl fl_X12_118 dX12_findLost_190 ?_
  refine jr_iconst C ic_0 dX12_findLost_193 ?_
  refine jr_iald C oS_34.1 oS_34.2.1 oS_34.2.2 dX12_findLost_194 ?_
  refine jr_icmp_gt C (tgt := 281) dX12_findLost_195 (by decide) (fun h30 => ?_) (fun h30 => ?_)
  · refine jo_pos h30 ?_
    exact jr_end (fun h => hx2 v1 v2 s h)
  refine jo_neg h30 ?_
  refine jr_iconst C ic_1 dX12_findLost_198 ?_
  refine jr_istore_n C (lv' := [(3, .int 1), (0, .ref (ad G 0)), (1, .int v1), (2, .int v2)]) (ltL hL rfl) rfl rfl dX12_findLost_199 ?_
  refine jr_lv [1, 2, 3, 0] rfl ?_
  refine jr_loopB (pc := 200) (pcx := 275) (f := fun a : (Int32 × Int32 × St) => f_Mo_findLost_L200_3 a.1 v2 a.2.1 a.2.2) (fun a : (Int32 × Int32 × St) => [(0, .ref (ad G 0)), (1, .int (a.1)), (2, .int v2), (3, .int (a.2.1))]) (fun a : (Int32 × Int32 × St) => a.2.2) (v1, 1, s) (fun a => t_Mo_findLost_L200_3 G hR hL C  a.1 v2 a.2.1 a.2.2 (fun _ _ _ h => h) (fun _ _ _ h => h)) (fun b44 => ?_)
  refine jr_iinc C 2 rfl ii_1 (lv' := [(2, .int (v2 + 1)), (0, .ref (ad G 0)), (1, .int (b44.1)), (3, .int (b44.2.1))]) (ltL hL rfl) rfl dX12_findLost_275 ?_
  refine jr_goto C (tgt := 188) dX12_findLost_278 (by decide) ?_
  refine jr_lv [1, 2, 0] rfl ?_
  exact jr_end (fun h => hb2 (b44.1) (v2 + 1) (b44.2.2) h)
noncomputable def f_Mo_findLost_L180 (v1 : Int32) (s : St) : Option ((Int32 × St) ⊕ (Int32 × St)) :=
  if v1 = 0 then
  some (.inr (v1, s))
  else
  (wh (fun a : (Int32 × Int32 × St) => f_Mo_findLost_L188_2 a.1 a.2.1 a.2.2) (0, 1, s)).bind (fun b45 =>
  some (.inl (b45.1, b45.2.2)))
set_option maxHeartbeats 4000000 in
set_option maxRecDepth 100000 in
theorem t_Mo_findLost_L180 (G : GG) (hR : gR G = rmx 3 73) (hL : gL G = 4) (C : Cx SM G cX12_findLost RX12) {Acc : ((Int32 × St) ⊕ (Int32 × St)) → Prop}  (v1 : Int32) (s : St) (hb1 : ∀ (a1 : Int32) (t : St), Acc (.inl (a1, t)) → KK SM G 180 [(0, .ref (ad G 0)), (1, .int a1)] [] t) (hx1 : ∀ (a1 : Int32) (t : St), Acc (.inr (a1, t)) → KK SM G 284 [(0, .ref (ad G 0)), (1, .int a1)] [] t) : JJ SM G Acc (f_Mo_findLost_L180 v1 s) 180 [(0, .ref (ad G 0)), (1, .int v1)] [] s := by
  unfold f_Mo_findLost_L180
  refine jr_iload_n C 1 rfl rfl dX12_findLost_180 ?_
  refine jr_if_eq C (tgt := 284) dX12_findLost_181 (by decide) (fun h29 => ?_) (fun h29 => ?_)
  · refine jo_pos h29 ?_
    exact jr_end (fun h => hx1 v1 s h)
  refine jo_neg h29 ?_
  refine jr_iconst C ic_0 dX12_findLost_184 ?_
  refine jr_istore_n C (lv' := [(1, .int 0), (0, .ref (ad G 0))]) (ltL hL rfl) rfl rfl dX12_findLost_185 ?_
  refine jr_iconst C ic_1 dX12_findLost_186 ?_
  refine jr_istore_n C (lv' := [(2, .int 1), (1, .int 0), (0, .ref (ad G 0))]) (ltL hL rfl) rfl rfl dX12_findLost_187 ?_
  refine jr_lv [2, 1, 0] rfl ?_
  refine jr_loopB (pc := 188) (pcx := 281) (f := fun a : (Int32 × Int32 × St) => f_Mo_findLost_L188_2 a.1 a.2.1 a.2.2) (fun a : (Int32 × Int32 × St) => [(0, .ref (ad G 0)), (1, .int (a.1)), (2, .int (a.2.1))]) (fun a : (Int32 × Int32 × St) => a.2.2) (0, 1, s) (fun a => t_Mo_findLost_L188_2 G hR hL C  a.1 a.2.1 a.2.2 (fun _ _ _ h => h) (fun _ _ _ h => h)) (fun b45 => ?_)
  refine jr_goto C (tgt := 180) dX12_findLost_281 (by decide) ?_
  refine jr_lv [0, 1] rfl ?_
  exact jr_end (fun h => hb1 (b45.1) (b45.2.2) h)
noncomputable def f_Mo_findLost_J358_2 (v2 : Int32) (v3 : Int32) (s : St) : Option ((Int32 × St) ⊕ (Int32 × St)) :=
  some (.inl ((v3 + 1), s))
set_option maxHeartbeats 4000000 in
set_option maxRecDepth 100000 in
theorem t_Mo_findLost_J358_2 (G : GG) (hR : gR G = rmx 3 73) (hL : gL G = 4) (C : Cx SM G cX12_findLost RX12) {Acc : ((Int32 × St) ⊕ (Int32 × St)) → Prop}  (v2 : Int32) (v3 : Int32) (s : St) (hb2 : ∀ (a3 : Int32) (t : St), Acc (.inl (a3, t)) → KK SM G 298 [(0, .ref (ad G 0)), (2, .int v2), (3, .int a3)] [] t) (hx2 : ∀ (a3 : Int32) (t : St), Acc (.inr (a3, t)) → KK SM G 364 [(0, .ref (ad G 0)), (2, .int v2), (3, .int a3)] [] t) : JJ SM G Acc (f_Mo_findLost_J358_2 v2 v3 s) 358 [(0, .ref (ad G 0)), (2, .int v2), (3, .int v3)] [] s := by
  unfold f_Mo_findLost_J358_2
  refine jr_iinc C 2 rfl ii_1 (lv' := [(3, .int (v3 + 1)), (0, .ref (ad G 0)), (2, .int v2)]) (ltL hL rfl) rfl dX12_findLost_358 ?_
  refine jr_goto C (tgt := 298) dX12_findLost_361 (by decide) ?_
  refine jr_lv [1, 2, 0] rfl ?_
  exact jr_end (fun h => hb2 (v3 + 1) s h)
noncomputable def f_Mo_findLost_J341_2 (v2 : Int32) (v3 : Int32) (s : St) : Option ((Int32 × St) ⊕ (Int32 × St)) :=
  (f_Mo_leadsFromBlock v3 v2 0 s).bind fun q52 =>
  if q52 = 0 then
  f_Mo_findLost_J358_2 v2 v3 s
  else
  gd v2 101 <|
  lt (uI s 48 (v2 : Int32).toNatClampNeg 1) fun s55 =>
  f_Mo_findLost_J358_2 v2 v3 s55
set_option maxHeartbeats 4000000 in
set_option maxRecDepth 100000 in
theorem t_Mo_findLost_J341_2 (G : GG) (hR : gR G = rmx 3 73) (hL : gL G = 4) (C : Cx SM G cX12_findLost RX12) {Acc : ((Int32 × St) ⊕ (Int32 × St)) → Prop}  (v2 : Int32) (v3 : Int32) (s : St) (hb2 : ∀ (a3 : Int32) (t : St), Acc (.inl (a3, t)) → KK SM G 298 [(0, .ref (ad G 0)), (2, .int v2), (3, .int a3)] [] t) (hx2 : ∀ (a3 : Int32) (t : St), Acc (.inr (a3, t)) → KK SM G 364 [(0, .ref (ad G 0)), (2, .int v2), (3, .int a3)] [] t) : JJ SM G Acc (f_Mo_findLost_J341_2 v2 v3 s) 341 [(0, .ref (ad G 0)), (2, .int v2), (3, .int v3)] [] s := by
  unfold f_Mo_findLost_J341_2
  refine jr_aload_n C 0 rfl rfl dX12_findLost_341 ?_
  refine jr_iload_n C 2 rfl rfl dX12_findLost_342 ?_
  refine jr_iload_n C 1 rfl rfl dX12_findLost_343 ?_
  refine jr_iconst C ic_0 dX12_findLost_344 ?_
  refine jr_bind (fun q52 e53 => ?_)
  refine jr_callVI C FX_10 km_X12_586 oS_0.1 oS_0.2 (rk hR rfl) (c_Mo_leadsFromBlock (gl G) v3 v2 0 s e53) rfl rfl rfl (Nat.le_of_ble_eq_true rfl) dX12_findLost_345 ?_
  refine jr_if_eq C (tgt := 358) dX12_findLost_348 (by decide) (fun h54 => ?_) (fun h54 => ?_)
  · refine jo_pos h54 ?_
    exact t_Mo_findLost_J358_2 G hR hL C  v2 v3 s hb2 hx2
  refine jo_neg h54 ?_
  refine jr_aload_n C 0 rfl rfl dX12_findLost_351 ?_
  refine jr_getR C FX_10 74 oS_0.1 oS_0.2 ff_10_74.1 ff_10_74.2 rfl fl_X12_160 dX12_findLost_352 ?_
  refine jr_iload_n C 1 rfl rfl dX12_findLost_355 ?_
  refine jr_iconst C ic_1 dX12_findLost_356 ?_
  refine jr_iast C oS_48.1 oS_48.2.1 oS_48.2.2 dX12_findLost_357 (jr_ltS fun s55 => ?_)
  exact t_Mo_findLost_J358_2 G hR hL C  v2 v3 s55 hb2 hx2
noncomputable def f_Mo_findLost_L298_2 (v2 : Int32) (v3 : Int32) (s : St) : Option ((Int32 × St) ⊕ (Int32 × St)) :=
  gd 0 2 <|
  if (s.1 34 (0 : Int32).toNatClampNeg) < v3 then
  some (.inr (v3, s))
  else
  gd v2 101 <|
  if (s.1 48 (v2 : Int32).toNatClampNeg) = 0 then
  (if v3 = v2 then
  f_Mo_findLost_J358_2 v2 v3 s
  else
  gd v3 101 <|
  if (s.1 48 (v3 : Int32).toNatClampNeg) = 0 then
  f_Mo_findLost_J341_2 v2 v3 s
  else
  gd v3 101 <|
  if (s.1 48 (v3 : Int32).toNatClampNeg) = 1 then
  f_Mo_findLost_J341_2 v2 v3 s
  else
  f_Mo_findLost_J358_2 v2 v3 s)
  else
  some (.inr (v3, s))
set_option maxHeartbeats 4000000 in
set_option maxRecDepth 100000 in
theorem t_Mo_findLost_L298_2 (G : GG) (hR : gR G = rmx 3 73) (hL : gL G = 4) (C : Cx SM G cX12_findLost RX12) {Acc : ((Int32 × St) ⊕ (Int32 × St)) → Prop}  (v2 : Int32) (v3 : Int32) (s : St) (hb2 : ∀ (a3 : Int32) (t : St), Acc (.inl (a3, t)) → KK SM G 298 [(0, .ref (ad G 0)), (2, .int v2), (3, .int a3)] [] t) (hx2 : ∀ (a3 : Int32) (t : St), Acc (.inr (a3, t)) → KK SM G 364 [(0, .ref (ad G 0)), (2, .int v2), (3, .int a3)] [] t) : JJ SM G Acc (f_Mo_findLost_L298_2 v2 v3 s) 298 [(0, .ref (ad G 0)), (2, .int v2), (3, .int v3)] [] s := by
  unfold f_Mo_findLost_L298_2
  refine jr_iload_n C 2 rfl rfl dX12_findLost_298 ?_
  refine jr_aload_n C 0 rfl rfl dX12_findLost_299 ?_
  refine jr_getR C FX_10 51 oS_0.1 oS_0.2 ff_10_51.1 ff_10_51.2 rfl fl_X12_118 dX12_findLost_300 ?_
  refine jr_iconst C ic_0 dX12_findLost_303 ?_
  refine jr_iald C oS_34.1 oS_34.2.1 oS_34.2.2 dX12_findLost_304 ?_
  refine jr_icmp_gt C (tgt := 364) dX12_findLost_305 (by decide) (fun h48 => ?_) (fun h48 => ?_)
  · refine jo_pos h48 ?_
    exact jr_end (fun h => hx2 v3 s h)
  refine jo_neg h48 ?_
  refine jr_aload_n C 0 rfl rfl dX12_findLost_308 ?_
  refine jr_getR C FX_10 74 oS_0.1 oS_0.2 ff_10_74.1 ff_10_74.2 rfl fl_X12_160 dX12_findLost_309 ?_
  refine jr_iload_n C 1 rfl rfl dX12_findLost_312 ?_
  refine jr_iald C oS_48.1 oS_48.2.1 oS_48.2.2 dX12_findLost_313 ?_
  refine jr_if_ne C (tgt := 364) dX12_findLost_314 (by decide) (fun h49 => ?_) (fun h49 => ?_)
  · refine jo_neg h49 ?_
    exact jr_end (fun h => hx2 v3 s h)
  refine jo_pos h49 ?_
  refine jr_iload_n C 2 rfl rfl dX12_findLost_317 ?_
  refine jr_iload_n C 1 rfl rfl dX12_findLost_318 ?_
  refine jr_icmp_eq C (tgt := 358) dX12_findLost_319 (by decide) (fun h50 => ?_) (fun h50 => ?_)
  · refine jo_pos h50 ?_
    exact t_Mo_findLost_J358_2 G hR hL C  v2 v3 s hb2 hx2
  refine jo_neg h50 ?_
  refine jr_aload_n C 0 rfl rfl dX12_findLost_322 ?_
  refine jr_getR C FX_10 74 oS_0.1 oS_0.2 ff_10_74.1 ff_10_74.2 rfl fl_X12_160 dX12_findLost_323 ?_
  refine jr_iload_n C 2 rfl rfl dX12_findLost_326 ?_
  refine jr_iald C oS_48.1 oS_48.2.1 oS_48.2.2 dX12_findLost_327 ?_
  refine jr_if_eq C (tgt := 341) dX12_findLost_328 (by decide) (fun h51 => ?_) (fun h51 => ?_)
  · refine jo_pos h51 ?_
    exact t_Mo_findLost_J341_2 G hR hL C  v2 v3 s hb2 hx2
  refine jo_neg h51 ?_
  refine jr_aload_n C 0 rfl rfl dX12_findLost_331 ?_
  refine jr_getR C FX_10 74 oS_0.1 oS_0.2 ff_10_74.1 ff_10_74.2 rfl fl_X12_160 dX12_findLost_332 ?_
  refine jr_iload_n C 2 rfl rfl dX12_findLost_335 ?_
  refine jr_iald C oS_48.1 oS_48.2.1 oS_48.2.2 dX12_findLost_336 ?_
  refine jr_iconst C ic_1 dX12_findLost_337 ?_
  refine jr_icmp_ne C (tgt := 358) dX12_findLost_338 (by decide) (fun h56 => ?_) (fun h56 => ?_)
  · refine jo_neg h56 ?_
    exact t_Mo_findLost_J358_2 G hR hL C  v2 v3 s hb2 hx2
  refine jo_pos h56 ?_
  exact t_Mo_findLost_J341_2 G hR hL C  v2 v3 s hb2 hx2
noncomputable def f_Mo_findLost_L286 (v2 : Int32) (s : St) : Option ((Int32 × St) ⊕ (Int32 × St)) :=
  gd 0 2 <|
  if (s.1 34 (0 : Int32).toNatClampNeg) < v2 then
  some (.inr (v2, s))
  else
  (wh (fun a : (Int32 × St) => f_Mo_findLost_L298_2 v2 a.1 a.2) (1, s)).bind (fun b57 =>
  some (.inl ((v2 + 1), b57.2)))
set_option maxHeartbeats 4000000 in
set_option maxRecDepth 100000 in
theorem t_Mo_findLost_L286 (G : GG) (hR : gR G = rmx 3 73) (hL : gL G = 4) (C : Cx SM G cX12_findLost RX12) {Acc : ((Int32 × St) ⊕ (Int32 × St)) → Prop}  (v2 : Int32) (s : St) (hb1 : ∀ (a2 : Int32) (t : St), Acc (.inl (a2, t)) → KK SM G 286 [(0, .ref (ad G 0)), (2, .int a2)] [] t) (hx1 : ∀ (a2 : Int32) (t : St), Acc (.inr (a2, t)) → KK SM G 370 [(0, .ref (ad G 0)), (2, .int a2)] [] t) : JJ SM G Acc (f_Mo_findLost_L286 v2 s) 286 [(0, .ref (ad G 0)), (2, .int v2)] [] s := by
  unfold f_Mo_findLost_L286
  refine jr_iload_n C 1 rfl rfl dX12_findLost_286 ?_
  refine jr_aload_n C 0 rfl rfl dX12_findLost_287 ?_
  refine jr_getR C FX_10 51 oS_0.1 oS_0.2 ff_10_51.1 ff_10_51.2 rfl fl_X12_118 dX12_findLost_288 ?_
  refine jr_iconst C ic_0 dX12_findLost_291 ?_
  refine jr_iald C oS_34.1 oS_34.2.1 oS_34.2.2 dX12_findLost_292 ?_
  refine jr_icmp_gt C (tgt := 370) dX12_findLost_293 (by decide) (fun h47 => ?_) (fun h47 => ?_)
  · refine jo_pos h47 ?_
    exact jr_end (fun h => hx1 v2 s h)
  refine jo_neg h47 ?_
  refine jr_iconst C ic_1 dX12_findLost_296 ?_
  refine jr_istore_n C (lv' := [(3, .int 1), (0, .ref (ad G 0)), (2, .int v2)]) (ltL hL rfl) rfl rfl dX12_findLost_297 ?_
  refine jr_lv [1, 2, 0] rfl ?_
  refine jr_loopB (pc := 298) (pcx := 364) (f := fun a : (Int32 × St) => f_Mo_findLost_L298_2 v2 a.1 a.2) (fun a : (Int32 × St) => [(0, .ref (ad G 0)), (2, .int v2), (3, .int (a.1))]) (fun a : (Int32 × St) => a.2) (1, s) (fun a => t_Mo_findLost_L298_2 G hR hL C  v2 a.1 a.2 (fun _ _ h => h) (fun _ _ h => h)) (fun b57 => ?_)
  refine jr_iinc C 1 rfl ii_1 (lv' := [(2, .int (v2 + 1)), (0, .ref (ad G 0)), (3, .int (b57.1))]) (ltL hL rfl) rfl dX12_findLost_364 ?_
  refine jr_goto C (tgt := 286) dX12_findLost_367 (by decide) ?_
  refine jr_lv [1, 0] rfl ?_
  exact jr_end (fun h => hb1 (v2 + 1) (b57.2) h)
noncomputable def f_Mo_findLost  (s : St) : Option St :=
  (wh (fun a : (Int32 × St) => f_Mo_findLost_L2 a.1 a.2) (1, s)).bind (fun b7 =>
  (wh (fun a : (Int32 × St) => f_Mo_findLost_L54 a.1 a.2) (1, b7.2)).bind (fun b21 =>
  (wh (fun a : (Int32 × St) => f_Mo_findLost_L137 a.1 a.2) (1, b21.2)).bind (fun b28 =>
  (wh (fun a : (Int32 × St) => f_Mo_findLost_L180 a.1 a.2) (1, b28.2)).bind (fun b46 =>
  (wh (fun a : (Int32 × St) => f_Mo_findLost_L286 a.1 a.2) (1, b46.2)).bind (fun b58 =>
  some (b58.2))))))
set_option maxHeartbeats 4000000 in
set_option maxRecDepth 100000 in
theorem t_Mo_findLost (G : GG) (hR : gR G = rmx 3 73) (hL : gL G = 4) (C : Cx SM G cX12_findLost RX12) {Acc : St → Prop}   (s : St) (hr : ∀ v : St, Acc v → RtV SM G cX12_findLost v) : JJ SM G Acc (f_Mo_findLost s) 0 [(0, .ref (ad G 0))] [] s := by
  unfold f_Mo_findLost
  refine jr_iconst C ic_1 dX12_findLost_0 ?_
  refine jr_istore_n C (lv' := [(1, .int 1), (0, .ref (ad G 0))]) (ltL hL rfl) rfl rfl dX12_findLost_1 ?_
  refine jr_lv [1, 0] rfl ?_
  refine jr_loopB (pc := 2) (pcx := 52) (f := fun a : (Int32 × St) => f_Mo_findLost_L2 a.1 a.2) (fun a : (Int32 × St) => [(0, .ref (ad G 0)), (1, .int (a.1))]) (fun a : (Int32 × St) => a.2) (1, s) (fun a => t_Mo_findLost_L2 G hR hL C  a.1 a.2 (fun _ _ h => h) (fun _ _ h => h)) (fun b7 => ?_)
  refine jr_iconst C ic_1 dX12_findLost_52 ?_
  refine jr_istore_n C (lv' := [(1, .int 1), (0, .ref (ad G 0))]) (ltL hL rfl) rfl rfl dX12_findLost_53 ?_
  refine jr_lv [1, 0] rfl ?_
  refine jr_loopB (pc := 54) (pcx := 135) (f := fun a : (Int32 × St) => f_Mo_findLost_L54 a.1 a.2) (fun a : (Int32 × St) => [(0, .ref (ad G 0)), (1, .int (a.1))]) (fun a : (Int32 × St) => a.2) (1, b7.2) (fun a => t_Mo_findLost_L54 G hR hL C  a.1 a.2 (fun _ _ h => h) (fun _ _ h => h)) (fun b21 => ?_)
  refine jr_iconst C ic_1 dX12_findLost_135 ?_
  refine jr_istore_n C (lv' := [(2, .int 1), (0, .ref (ad G 0)), (1, .int (b21.1))]) (ltL hL rfl) rfl rfl dX12_findLost_136 ?_
  refine jr_lv [1, 0] rfl ?_
  refine jr_loopB (pc := 137) (pcx := 178) (f := fun a : (Int32 × St) => f_Mo_findLost_L137 a.1 a.2) (fun a : (Int32 × St) => [(0, .ref (ad G 0)), (2, .int (a.1))]) (fun a : (Int32 × St) => a.2) (1, b21.2) (fun a => t_Mo_findLost_L137 G hR hL C  a.1 a.2 (fun _ _ h => h) (fun _ _ h => h)) (fun b28 => ?_)
  refine jr_iconst C ic_1 dX12_findLost_178 ?_
  refine jr_istore_n C (lv' := [(1, .int 1), (0, .ref (ad G 0)), (2, .int (b28.1))]) (ltL hL rfl) rfl rfl dX12_findLost_179 ?_
  refine jr_lv [1, 0] rfl ?_
  refine jr_loopB (pc := 180) (pcx := 284) (f := fun a : (Int32 × St) => f_Mo_findLost_L180 a.1 a.2) (fun a : (Int32 × St) => [(0, .ref (ad G 0)), (1, .int (a.1))]) (fun a : (Int32 × St) => a.2) (1, b28.2) (fun a => t_Mo_findLost_L180 G hR hL C  a.1 a.2 (fun _ _ h => h) (fun _ _ h => h)) (fun b46 => ?_)
  refine jr_iconst C ic_1 dX12_findLost_284 ?_
  refine jr_istore_n C (lv' := [(2, .int 1), (0, .ref (ad G 0)), (1, .int (b46.1))]) (ltL hL rfl) rfl rfl dX12_findLost_285 ?_
  refine jr_lv [1, 0] rfl ?_
  refine jr_loopB (pc := 286) (pcx := 370) (f := fun a : (Int32 × St) => f_Mo_findLost_L286 a.1 a.2) (fun a : (Int32 × St) => [(0, .ref (ad G 0)), (2, .int (a.1))]) (fun a : (Int32 × St) => a.2) (1, b46.2) (fun a => t_Mo_findLost_L286 G hR hL C  a.1 a.2 (fun _ _ h => h) (fun _ _ h => h)) (fun b58 => ?_)
  exact jr_end (fun h => hr (b58.2) h _ _ dX12_findLost_370)
set_option maxRecDepth 100000 in
theorem c_Mo_findLost (l : Launch)   (s : St) {q : St} (h : f_Mo_findLost s = some q) : CT SM l yX12_findLost cX12_findLost 4 none 3 73 (fun a => [.ref (a 0)]) s q (fun _ => none) :=
  ct_V okX_M (by decide) (fun _ => Nat.le_of_ble_eq_true rfl) (fun G hl hR hL C hr => t_Mo_findLost G hR hL C (Acc := fun v => v = q)   s (fun v hv => by rw [hv]; exact hr) ⟨_, h, rfl⟩)
