noncomputable def f_Mo_marked_J83  (s : St) : Option St :=
  (f_Mo_trap 4 s).bind fun q13 =>
  some q13
set_option maxHeartbeats 4000000 in
set_option maxRecDepth 100000 in
theorem t_Mo_marked_J83 (G : GG) (hR : gR G = rmx 2 43) (hL : gL G = 7) (C : Cx SM G cX12_marked RX12) {Acc : St → Prop}   (s : St) (hr : ∀ v : St, Acc v → RtV SM G cX12_marked v) : JJ SM G Acc (f_Mo_marked_J83 s) 83 [(0, .ref (ad G 0))] [] s := by
  unfold f_Mo_marked_J83
  refine jr_aload_n C 0 rfl rfl dX12_marked_83 ?_
  refine jr_iconst C ic_4 dX12_marked_84 ?_
  refine jr_bind (fun q13 e14 => ?_)
  refine jr_callVV C FX_10 km_X12_423 oS_0.1 oS_0.2 (rk hR rfl) (c_Mo_trap (gl G) 4 s e14) rfl rfl rfl (Nat.le_of_ble_eq_true rfl) dX12_marked_85 ?_
  exact jr_end (fun h => hr q13 h _ _ dX12_marked_88)
noncomputable def f_Mo_marked_J200_1 (v2 : Int32) (v3 : Int32) (v4 : Int32) (v5 : Int32) (s : St) : Option ((Int32 × St) ⊕ (Int32 × St)) :=
  some (.inl ((v5 + 1), s))
set_option maxHeartbeats 4000000 in
set_option maxRecDepth 100000 in
theorem t_Mo_marked_J200_1 (G : GG) (hR : gR G = rmx 2 43) (hL : gL G = 7) (C : Cx SM G cX12_marked RX12) {Acc : ((Int32 × St) ⊕ (Int32 × St)) → Prop}  (v2 : Int32) (v3 : Int32) (v4 : Int32) (v5 : Int32) (s : St) (hb1 : ∀ (a5 : Int32) (t : St), Acc (.inl (a5, t)) → KK SM G 92 [(0, .ref (ad G 0)), (2, .int v2), (3, .int v3), (4, .int v4), (5, .int a5)] [] t) (hx1 : ∀ (a5 : Int32) (t : St), Acc (.inr (a5, t)) → KK SM G 206 [(0, .ref (ad G 0)), (2, .int v2), (3, .int v3), (4, .int v4), (5, .int a5)] [] t) : JJ SM G Acc (f_Mo_marked_J200_1 v2 v3 v4 v5 s) 200 [(0, .ref (ad G 0)), (2, .int v2), (3, .int v3), (4, .int v4), (5, .int v5)] [] s := by
  unfold f_Mo_marked_J200_1
  refine jr_iinc C 4 rfl ii_1 (lv' := [(5, .int (v5 + 1)), (0, .ref (ad G 0)), (2, .int v2), (3, .int v3), (4, .int v4)]) (ltL hL rfl) rfl dX12_marked_200 ?_
  refine jr_goto C (tgt := 92) dX12_marked_203 (by decide) ?_
  refine jr_lv [1, 2, 3, 4, 0] rfl ?_
  exact jr_end (fun h => hb1 (v5 + 1) s h)
noncomputable def f_Mo_marked_J186_1 (v2 : Int32) (v3 : Int32) (v4 : Int32) (v5 : Int32) (v6 : Int32) (s : St) : Option ((Int32 × St) ⊕ (Int32 × St)) :=
  if v4 = 2 then
  (gd v6 8192 <|
  lt (uI s 18 (v6 : Int32).toNatClampNeg 0) fun s24 =>
  f_Mo_marked_J200_1 v2 v3 v4 v5 s24)
  else
  f_Mo_marked_J200_1 v2 v3 v4 v5 s
set_option maxHeartbeats 4000000 in
set_option maxRecDepth 100000 in
theorem t_Mo_marked_J186_1 (G : GG) (hR : gR G = rmx 2 43) (hL : gL G = 7) (C : Cx SM G cX12_marked RX12) {Acc : ((Int32 × St) ⊕ (Int32 × St)) → Prop}  (v2 : Int32) (v3 : Int32) (v4 : Int32) (v5 : Int32) (v6 : Int32) (s : St) (hb1 : ∀ (a5 : Int32) (t : St), Acc (.inl (a5, t)) → KK SM G 92 [(0, .ref (ad G 0)), (2, .int v2), (3, .int v3), (4, .int v4), (5, .int a5)] [] t) (hx1 : ∀ (a5 : Int32) (t : St), Acc (.inr (a5, t)) → KK SM G 206 [(0, .ref (ad G 0)), (2, .int v2), (3, .int v3), (4, .int v4), (5, .int a5)] [] t) : JJ SM G Acc (f_Mo_marked_J186_1 v2 v3 v4 v5 v6 s) 186 [(0, .ref (ad G 0)), (2, .int v2), (3, .int v3), (4, .int v4), (5, .int v5), (6, .int v6)] [] s := by
  unfold f_Mo_marked_J186_1
  refine jr_iload C 3 rfl dX12_marked_186 ?_
  refine jr_iconst C ic_2 dX12_marked_188 ?_
  refine jr_icmp_ne C (tgt := 200) dX12_marked_189 (by decide) (fun h23 => ?_) (fun h23 => ?_)
  · refine jo_neg h23 ?_
    refine jr_lv [0, 1, 2, 3, 4] rfl ?_
    exact t_Mo_marked_J200_1 G hR hL C  v2 v3 v4 v5 s hb1 hx1
  refine jo_pos h23 ?_
  refine jr_aload_n C 0 rfl rfl dX12_marked_192 ?_
  refine jr_getR C FX_10 35 oS_0.1 oS_0.2 ff_10_35.1 ff_10_35.2 rfl fl_X12_70 dX12_marked_193 ?_
  refine jr_iload C 5 rfl dX12_marked_196 ?_
  refine jr_iconst C ic_0 dX12_marked_198 ?_
  refine jr_iast C oS_18.1 oS_18.2.1 oS_18.2.2 dX12_marked_199 (jr_ltS fun s24 => ?_)
  refine jr_lv [0, 1, 2, 3, 4] rfl ?_
  exact t_Mo_marked_J200_1 G hR hL C  v2 v3 v4 v5 s24 hb1 hx1
noncomputable def f_Mo_marked_J171_1 (v2 : Int32) (v3 : Int32) (v4 : Int32) (v5 : Int32) (v6 : Int32) (w0 : Int32) (w1 : Int32) (s : St) : Option ((Int32 × St) ⊕ (Int32 × St)) :=
  gd w1 8192 <|
  lt (uI s 19 (w1 : Int32).toNatClampNeg (bN w0)) fun s21 =>
  if v4 = 2 then
  (gd v6 8192 <|
  lt (uI s21 17 (v6 : Int32).toNatClampNeg 0) fun s25 =>
  f_Mo_marked_J186_1 v2 v3 v4 v5 v6 s25)
  else
  f_Mo_marked_J186_1 v2 v3 v4 v5 v6 s21
set_option maxHeartbeats 4000000 in
set_option maxRecDepth 100000 in
theorem t_Mo_marked_J171_1 (G : GG) (hR : gR G = rmx 2 43) (hL : gL G = 7) (C : Cx SM G cX12_marked RX12) {Acc : ((Int32 × St) ⊕ (Int32 × St)) → Prop}  (v2 : Int32) (v3 : Int32) (v4 : Int32) (v5 : Int32) (v6 : Int32) (w0 : Int32) (w1 : Int32) (s : St) (hb1 : ∀ (a5 : Int32) (t : St), Acc (.inl (a5, t)) → KK SM G 92 [(0, .ref (ad G 0)), (2, .int v2), (3, .int v3), (4, .int v4), (5, .int a5)] [] t) (hx1 : ∀ (a5 : Int32) (t : St), Acc (.inr (a5, t)) → KK SM G 206 [(0, .ref (ad G 0)), (2, .int v2), (3, .int v3), (4, .int v4), (5, .int a5)] [] t) : JJ SM G Acc (f_Mo_marked_J171_1 v2 v3 v4 v5 v6 w0 w1 s) 171 [(0, .ref (ad G 0)), (2, .int v2), (3, .int v3), (4, .int v4), (5, .int v5), (6, .int v6)] [.int w0, .int w1, .ref (ad G 19)] s := by
  unfold f_Mo_marked_J171_1
  refine jr_zast C oS_19.1 oS_19.2.1 oS_19.2.2 dX12_marked_171 (jr_ltS fun s21 => ?_)
  refine jr_iload C 3 rfl dX12_marked_172 ?_
  refine jr_iconst C ic_2 dX12_marked_174 ?_
  refine jr_icmp_ne C (tgt := 186) dX12_marked_175 (by decide) (fun h22 => ?_) (fun h22 => ?_)
  · refine jo_neg h22 ?_
    exact t_Mo_marked_J186_1 G hR hL C  v2 v3 v4 v5 v6 s21 hb1 hx1
  refine jo_pos h22 ?_
  refine jr_aload_n C 0 rfl rfl dX12_marked_178 ?_
  refine jr_getR C FX_10 34 oS_0.1 oS_0.2 ff_10_34.1 ff_10_34.2 rfl fl_X12_67 dX12_marked_179 ?_
  refine jr_iload C 5 rfl dX12_marked_182 ?_
  refine jr_iconst C ic_0 dX12_marked_184 ?_
  refine jr_iast C oS_17.1 oS_17.2.1 oS_17.2.2 dX12_marked_185 (jr_ltS fun s25 => ?_)
  exact t_Mo_marked_J186_1 G hR hL C  v2 v3 v4 v5 v6 s25 hb1 hx1
noncomputable def f_Mo_marked_J148_1 (v2 : Int32) (v3 : Int32) (v4 : Int32) (v5 : Int32) (w0 : Int32) (w1 : Int32) (s : St) : Option ((Int32 × St) ⊕ (Int32 × St)) :=
  (f_Mo_unset w1 w0 s).bind fun q27 =>
  f_Mo_marked_J200_1 v2 v3 v4 v5 q27
set_option maxHeartbeats 4000000 in
set_option maxRecDepth 100000 in
theorem t_Mo_marked_J148_1 (G : GG) (hR : gR G = rmx 2 43) (hL : gL G = 7) (C : Cx SM G cX12_marked RX12) {Acc : ((Int32 × St) ⊕ (Int32 × St)) → Prop}  (v2 : Int32) (v3 : Int32) (v4 : Int32) (v5 : Int32) (w0 : Int32) (w1 : Int32) (s : St) (hb1 : ∀ (a5 : Int32) (t : St), Acc (.inl (a5, t)) → KK SM G 92 [(0, .ref (ad G 0)), (2, .int v2), (3, .int v3), (4, .int v4), (5, .int a5)] [] t) (hx1 : ∀ (a5 : Int32) (t : St), Acc (.inr (a5, t)) → KK SM G 206 [(0, .ref (ad G 0)), (2, .int v2), (3, .int v3), (4, .int v4), (5, .int a5)] [] t) : JJ SM G Acc (f_Mo_marked_J148_1 v2 v3 v4 v5 w0 w1 s) 148 [(0, .ref (ad G 0)), (2, .int v2), (3, .int v3), (4, .int v4), (5, .int v5)] [.int w0, .int w1, .ref (ad G 0)] s := by
  unfold f_Mo_marked_J148_1
  refine jr_bind (fun q27 e28 => ?_)
  refine jr_callVV C FX_10 km_X12_426 oS_0.1 oS_0.2 (rk hR rfl) (c_Mo_unset (gl G) w1 w0 s e28) rfl rfl rfl (Nat.le_of_ble_eq_true rfl) dX12_marked_148 ?_
  refine jr_goto C (tgt := 200) dX12_marked_151 (by decide) ?_
  exact t_Mo_marked_J200_1 G hR hL C  v2 v3 v4 v5 q27 hb1 hx1
noncomputable def f_Mo_marked_L92 (v2 : Int32) (v3 : Int32) (v4 : Int32) (v5 : Int32) (s : St) : Option ((Int32 × St) ⊕ (Int32 × St)) :=
  if v3 ≤ v5 then
  some (.inr (v5, s))
  else
  lt (((4096 * (s.1 0 28)) + v2) + v5) fun x18 =>
  if v4 = 1 then
  (if 256 ≤ (s.1 0 69) then
  f_Mo_marked_J148_1 v2 v3 v4 v5 511 (v2 + v5) s
  else
  f_Mo_marked_J148_1 v2 v3 v4 v5 (256 + (s.1 0 69)) (v2 + v5) s)
  else
  if v4 = 2 then
  f_Mo_marked_J171_1 v2 v3 v4 v5 x18 1 x18 s
  else
  f_Mo_marked_J171_1 v2 v3 v4 v5 x18 0 x18 s
set_option maxHeartbeats 4000000 in
set_option maxRecDepth 100000 in
theorem t_Mo_marked_L92 (G : GG) (hR : gR G = rmx 2 43) (hL : gL G = 7) (C : Cx SM G cX12_marked RX12) {Acc : ((Int32 × St) ⊕ (Int32 × St)) → Prop}  (v2 : Int32) (v3 : Int32) (v4 : Int32) (v5 : Int32) (s : St) (hb1 : ∀ (a5 : Int32) (t : St), Acc (.inl (a5, t)) → KK SM G 92 [(0, .ref (ad G 0)), (2, .int v2), (3, .int v3), (4, .int v4), (5, .int a5)] [] t) (hx1 : ∀ (a5 : Int32) (t : St), Acc (.inr (a5, t)) → KK SM G 206 [(0, .ref (ad G 0)), (2, .int v2), (3, .int v3), (4, .int v4), (5, .int a5)] [] t) : JJ SM G Acc (f_Mo_marked_L92 v2 v3 v4 v5 s) 92 [(0, .ref (ad G 0)), (2, .int v2), (3, .int v3), (4, .int v4), (5, .int v5)] [] s := by
  unfold f_Mo_marked_L92
  refine jr_iload C 4 rfl dX12_marked_92 ?_
  refine jr_iload_n C 2 rfl rfl dX12_marked_94 ?_
  refine jr_icmp_ge C (tgt := 206) dX12_marked_95 (by decide) (fun h17 => ?_) (fun h17 => ?_)
  · refine jo_pos h17 ?_
    exact jr_end (fun h => hx1 v5 s h)
  refine jo_neg h17 ?_
  refine jr_sipush C sp_4096 dX12_marked_98 ?_
  refine jr_aload_n C 0 rfl rfl dX12_marked_101 ?_
  refine jr_getI C FX_10 28 oS_0.1 oS_0.2 ff_10_28.1 ff_10_28.2 fl_X12_394 dX12_marked_102 ?_
  refine jr_imul C dX12_marked_105 ?_
  refine jr_iload_n C 1 rfl rfl dX12_marked_106 ?_
  refine jr_iadd C dX12_marked_107 ?_
  refine jr_iload C 4 rfl dX12_marked_108 ?_
  refine jr_iadd C dX12_marked_110 ?_
  refine jr_ltI (fun x18 => ?_)
  refine jr_istore C (lv' := [(6, .int x18), (0, .ref (ad G 0)), (2, .int v2), (3, .int v3), (4, .int v4), (5, .int v5)]) (ltL hL rfl) rfl dX12_marked_111 ?_
  refine jr_iload C 4 rfl dX12_marked_113 ?_
  refine jr_iconst C ic_1 dX12_marked_115 ?_
  refine jr_icmp_ne C (tgt := 154) dX12_marked_116 (by decide) (fun h19 => ?_) (fun h19 => ?_)
  · refine jo_neg h19 ?_
    refine jr_aload_n C 1 rfl rfl dX12_marked_154 ?_
    refine jr_getR C FX_10 36 oS_0.1 oS_0.2 ff_10_36.1 ff_10_36.2 rfl fl_X12_73 dX12_marked_155 ?_
    refine jr_iload C 0 rfl dX12_marked_158 ?_
    refine jr_iload C 4 rfl dX12_marked_160 ?_
    refine jr_iconst C ic_2 dX12_marked_162 ?_
    refine jr_icmp_ne C (tgt := 170) dX12_marked_163 (by decide) (fun h20 => ?_) (fun h20 => ?_)
    · refine jo_neg h20 ?_
      refine jr_iconst C ic_0 dX12_marked_170 ?_
      refine jr_lv [1, 2, 3, 4, 5, 0] rfl ?_
      exact t_Mo_marked_J171_1 G hR hL C  v2 v3 v4 v5 x18 0 x18 s hb1 hx1
    refine jo_pos h20 ?_
    refine jr_iconst C ic_1 dX12_marked_166 ?_
    refine jr_goto C (tgt := 171) dX12_marked_167 (by decide) ?_
    refine jr_lv [1, 2, 3, 4, 5, 0] rfl ?_
    exact t_Mo_marked_J171_1 G hR hL C  v2 v3 v4 v5 x18 1 x18 s hb1 hx1
  refine jo_pos h19 ?_
  refine jr_aload_n C 1 rfl rfl dX12_marked_119 ?_
  refine jr_iload_n C 2 rfl rfl dX12_marked_120 ?_
  refine jr_iload C 5 rfl dX12_marked_121 ?_
  refine jr_iadd C dX12_marked_123 ?_
  refine jr_aload_n C 1 rfl rfl dX12_marked_124 ?_
  refine jr_getI C FX_10 69 oS_0.1 oS_0.2 ff_10_69.1 ff_10_69.2 fl_X12_420 dX12_marked_125 ?_
  refine jr_sipush C sp_256 dX12_marked_128 ?_
  refine jr_icmp_ge C (tgt := 145) dX12_marked_131 (by decide) (fun h26 => ?_) (fun h26 => ?_)
  · refine jo_pos h26 ?_
    refine jr_sipush C sp_511 dX12_marked_145 ?_
    refine jr_lv [1, 2, 3, 4, 5] rfl ?_
    exact t_Mo_marked_J148_1 G hR hL C  v2 v3 v4 v5 511 (v2 + v5) s hb1 hx1
  refine jo_neg h26 ?_
  refine jr_sipush C sp_256 dX12_marked_134 ?_
  refine jr_aload_n C 1 rfl rfl dX12_marked_137 ?_
  refine jr_getI C FX_10 69 oS_0.1 oS_0.2 ff_10_69.1 ff_10_69.2 fl_X12_420 dX12_marked_138 ?_
  refine jr_iadd C dX12_marked_141 ?_
  refine jr_goto C (tgt := 148) dX12_marked_142 (by decide) ?_
  refine jr_lv [1, 2, 3, 4, 5] rfl ?_
  exact t_Mo_marked_J148_1 G hR hL C  v2 v3 v4 v5 (256 + (s.1 0 69)) (v2 + v5) s hb1 hx1
noncomputable def f_Mo_marked_J64 (v2 : Int32) (v3 : Int32) (v4 : Int32) (s : St) : Option St :=
  if v4 < 0 then
  f_Mo_marked_J83 s
  else
  if 2 < v4 then
  f_Mo_marked_J83 s
  else
  if (f_Mo_areIn v2 v3) = 0 then
  f_Mo_marked_J83 s
  else
  (wh (fun a : (Int32 × St) => f_Mo_marked_L92 v2 v3 v4 a.1 a.2) (0, s)).bind (fun b29 =>
  some (b29.2))
set_option maxHeartbeats 4000000 in
set_option maxRecDepth 100000 in
theorem t_Mo_marked_J64 (G : GG) (hR : gR G = rmx 2 43) (hL : gL G = 7) (C : Cx SM G cX12_marked RX12) {Acc : St → Prop}  (v2 : Int32) (v3 : Int32) (v4 : Int32) (s : St) (hr : ∀ v : St, Acc v → RtV SM G cX12_marked v) : JJ SM G Acc (f_Mo_marked_J64 v2 v3 v4 s) 64 [(0, .ref (ad G 0)), (2, .int v2), (3, .int v3), (4, .int v4)] [] s := by
  unfold f_Mo_marked_J64
  refine jr_iload C 3 rfl dX12_marked_64 ?_
  refine jr_if_lt C (tgt := 83) dX12_marked_66 (by decide) (fun h12 => ?_) (fun h12 => ?_)
  · refine jo_pos h12 ?_
    refine jr_lv [0] rfl ?_
    exact t_Mo_marked_J83 G hR hL C   s hr
  refine jo_neg h12 ?_
  refine jr_iload C 3 rfl dX12_marked_69 ?_
  refine jr_iconst C ic_2 dX12_marked_71 ?_
  refine jr_icmp_gt C (tgt := 83) dX12_marked_72 (by decide) (fun h15 => ?_) (fun h15 => ?_)
  · refine jo_pos h15 ?_
    refine jr_lv [0] rfl ?_
    exact t_Mo_marked_J83 G hR hL C   s hr
  refine jo_neg h15 ?_
  refine jr_iload_n C 1 rfl rfl dX12_marked_75 ?_
  refine jr_iload_n C 2 rfl rfl dX12_marked_76 ?_
  refine jr_callSI C km_X12_500 (rk hR rfl) (c_Mo_areIn (gl G) v2 v3 s) rfl rfl rfl (Nat.le_of_ble_eq_true rfl) dX12_marked_77 ?_
  refine jr_if_ne C (tgt := 89) dX12_marked_80 (by decide) (fun h16 => ?_) (fun h16 => ?_)
  · refine jo_neg h16 ?_
    refine jr_iconst C ic_0 dX12_marked_89 ?_
    refine jr_istore C (lv' := [(5, .int 0), (0, .ref (ad G 0)), (2, .int v2), (3, .int v3), (4, .int v4)]) (ltL hL rfl) rfl dX12_marked_90 ?_
    refine jr_lv [1, 2, 3, 4, 0] rfl ?_
    refine jr_loopB (pc := 92) (pcx := 206) (f := fun a : (Int32 × St) => f_Mo_marked_L92 v2 v3 v4 a.1 a.2) (fun a : (Int32 × St) => [(0, .ref (ad G 0)), (2, .int v2), (3, .int v3), (4, .int v4), (5, .int (a.1))]) (fun a : (Int32 × St) => a.2) (0, s) (fun a => t_Mo_marked_L92 G hR hL C  v2 v3 v4 a.1 a.2 (fun _ _ h => h) (fun _ _ h => h)) (fun b29 => ?_)
    exact jr_end (fun h => hr (b29.2) h _ _ dX12_marked_206)
  refine jo_pos h16 ?_
  refine jr_lv [0] rfl ?_
  exact t_Mo_marked_J83 G hR hL C   s hr
noncomputable def f_Mo_marked_J42 (v1 : Int32) (v2 : Int32) (v3 : Int32) (v4 : Int32) (s : St) : Option St :=
  (f_Mo_shade (v1 + 1) s).bind fun q9 =>
  if q9 = 0 then
  f_Mo_marked_J64 v2 v3 v4 s
  else
  (f_Mo_origin (v1 + 1) s).bind fun q30 =>
  (f_Mo_told 5 q30 s).bind fun q32 =>
  f_Mo_marked_J64 v2 v3 v4 q32
set_option maxHeartbeats 4000000 in
set_option maxRecDepth 100000 in
theorem t_Mo_marked_J42 (G : GG) (hR : gR G = rmx 2 43) (hL : gL G = 7) (C : Cx SM G cX12_marked RX12) {Acc : St → Prop}  (v1 : Int32) (v2 : Int32) (v3 : Int32) (v4 : Int32) (s : St) (hr : ∀ v : St, Acc v → RtV SM G cX12_marked v) : JJ SM G Acc (f_Mo_marked_J42 v1 v2 v3 v4 s) 42 [(0, .ref (ad G 0)), (1, .int v1), (2, .int v2), (3, .int v3), (4, .int v4)] [] s := by
  unfold f_Mo_marked_J42
  refine jr_aload_n C 0 rfl rfl dX12_marked_42 ?_
  refine jr_iload_n C 1 rfl rfl dX12_marked_43 ?_
  refine jr_iconst C ic_1 dX12_marked_44 ?_
  refine jr_iadd C dX12_marked_45 ?_
  refine jr_bind (fun q9 e10 => ?_)
  refine jr_callVI C FX_10 km_X12_454 oS_0.1 oS_0.2 (rk hR rfl) (c_Mo_shade (gl G) (v1 + 1) s e10) rfl rfl rfl (Nat.le_of_ble_eq_true rfl) dX12_marked_46 ?_
  refine jr_if_eq C (tgt := 64) dX12_marked_49 (by decide) (fun h11 => ?_) (fun h11 => ?_)
  · refine jo_pos h11 ?_
    refine jr_lv [0, 2, 3, 4] rfl ?_
    exact t_Mo_marked_J64 G hR hL C  v2 v3 v4 s hr
  refine jo_neg h11 ?_
  refine jr_aload_n C 0 rfl rfl dX12_marked_52 ?_
  refine jr_iconst C ic_5 dX12_marked_53 ?_
  refine jr_aload_n C 0 rfl rfl dX12_marked_54 ?_
  refine jr_iload_n C 1 rfl rfl dX12_marked_55 ?_
  refine jr_iconst C ic_1 dX12_marked_56 ?_
  refine jr_iadd C dX12_marked_57 ?_
  refine jr_bind (fun q30 e31 => ?_)
  refine jr_callVI C FX_10 km_X12_457 oS_0.1 oS_0.2 (rk hR rfl) (c_Mo_origin (gl G) (v1 + 1) s e31) rfl rfl rfl (Nat.le_of_ble_eq_true rfl) dX12_marked_58 ?_
  refine jr_bind (fun q32 e33 => ?_)
  refine jr_callVV C FX_10 km_X12_460 oS_0.1 oS_0.2 (rk hR rfl) (c_Mo_told (gl G) 5 q30 s e33) rfl rfl rfl (Nat.le_of_ble_eq_true rfl) dX12_marked_61 ?_
  refine jr_lv [0, 2, 3, 4] rfl ?_
  exact t_Mo_marked_J64 G hR hL C  v2 v3 v4 q32 hr
noncomputable def f_Mo_marked (v1 : Int32) (s : St) : Option St :=
  (f_Mo_value v1 s).bind fun q1 =>
  (f_Mo_value (v1 + 1) s).bind fun q3 =>
  gd (v1 + 2) 1200 <|
  lt (s.1 5 ((v1 + 2) : Int32).toNatClampNeg) fun x5 =>
  (f_Mo_shade v1 s).bind fun q6 =>
  if q6 = 0 then
  f_Mo_marked_J42 v1 q1 q3 x5 s
  else
  (f_Mo_origin v1 s).bind fun q34 =>
  (f_Mo_told 2 q34 s).bind fun q36 =>
  f_Mo_marked_J42 v1 q1 q3 x5 q36
set_option maxHeartbeats 4000000 in
set_option maxRecDepth 100000 in
theorem t_Mo_marked (G : GG) (hR : gR G = rmx 2 43) (hL : gL G = 7) (C : Cx SM G cX12_marked RX12) {Acc : St → Prop}  (v1 : Int32) (s : St) (hr : ∀ v : St, Acc v → RtV SM G cX12_marked v) : JJ SM G Acc (f_Mo_marked v1 s) 0 [(0, .ref (ad G 0)), (1, .int v1)] [] s := by
  unfold f_Mo_marked
  refine jr_aload_n C 0 rfl rfl dX12_marked_0 ?_
  refine jr_iload_n C 1 rfl rfl dX12_marked_1 ?_
  refine jr_bind (fun q1 e2 => ?_)
  refine jr_callVI C FX_10 km_X12_451 oS_0.1 oS_0.2 (rk hR rfl) (c_Mo_value (gl G) v1 s e2) rfl rfl rfl (Nat.le_of_ble_eq_true rfl) dX12_marked_2 ?_
  refine jr_istore_n C (lv' := [(2, .int q1), (0, .ref (ad G 0)), (1, .int v1)]) (ltL hL rfl) rfl rfl dX12_marked_5 ?_
  refine jr_aload_n C 1 rfl rfl dX12_marked_6 ?_
  refine jr_iload_n C 2 rfl rfl dX12_marked_7 ?_
  refine jr_iconst C ic_1 dX12_marked_8 ?_
  refine jr_iadd C dX12_marked_9 ?_
  refine jr_bind (fun q3 e4 => ?_)
  refine jr_callVI C FX_10 km_X12_451 oS_0.1 oS_0.2 (rk hR rfl) (c_Mo_value (gl G) (v1 + 1) s e4) rfl rfl rfl (Nat.le_of_ble_eq_true rfl) dX12_marked_10 ?_
  refine jr_istore_n C (lv' := [(3, .int q3), (2, .int q1), (0, .ref (ad G 0)), (1, .int v1)]) (ltL hL rfl) rfl rfl dX12_marked_13 ?_
  refine jr_aload_n C 2 rfl rfl dX12_marked_14 ?_
  refine jr_getR C FX_10 6 oS_0.1 oS_0.2 ff_10_6.1 ff_10_6.2 rfl fl_X12_24 dX12_marked_15 ?_
  refine jr_iload_n C 3 rfl rfl dX12_marked_18 ?_
  refine jr_iconst C ic_2 dX12_marked_19 ?_
  refine jr_iadd C dX12_marked_20 ?_
  refine jr_iald C oS_5.1 oS_5.2.1 oS_5.2.2 dX12_marked_21 ?_
  refine jr_ltI (fun x5 => ?_)
  refine jr_istore C (lv' := [(4, .int x5), (3, .int q3), (2, .int q1), (0, .ref (ad G 0)), (1, .int v1)]) (ltL hL rfl) rfl dX12_marked_22 ?_
  refine jr_aload_n C 3 rfl rfl dX12_marked_24 ?_
  refine jr_iload_n C 4 rfl rfl dX12_marked_25 ?_
  refine jr_bind (fun q6 e7 => ?_)
  refine jr_callVI C FX_10 km_X12_454 oS_0.1 oS_0.2 (rk hR rfl) (c_Mo_shade (gl G) v1 s e7) rfl rfl rfl (Nat.le_of_ble_eq_true rfl) dX12_marked_26 ?_
  refine jr_if_eq C (tgt := 42) dX12_marked_29 (by decide) (fun h8 => ?_) (fun h8 => ?_)
  · refine jo_pos h8 ?_
    refine jr_lv [3, 4, 2, 1, 0] rfl ?_
    exact t_Mo_marked_J42 G hR hL C  v1 q1 q3 x5 s hr
  refine jo_neg h8 ?_
  refine jr_aload_n C 3 rfl rfl dX12_marked_32 ?_
  refine jr_iconst C ic_2 dX12_marked_33 ?_
  refine jr_aload_n C 3 rfl rfl dX12_marked_34 ?_
  refine jr_iload_n C 4 rfl rfl dX12_marked_35 ?_
  refine jr_bind (fun q34 e35 => ?_)
  refine jr_callVI C FX_10 km_X12_457 oS_0.1 oS_0.2 (rk hR rfl) (c_Mo_origin (gl G) v1 s e35) rfl rfl rfl (Nat.le_of_ble_eq_true rfl) dX12_marked_36 ?_
  refine jr_bind (fun q36 e37 => ?_)
  refine jr_callVV C FX_10 km_X12_460 oS_0.1 oS_0.2 (rk hR rfl) (c_Mo_told (gl G) 2 q34 s e37) rfl rfl rfl (Nat.le_of_ble_eq_true rfl) dX12_marked_39 ?_
  refine jr_lv [3, 4, 2, 1, 0] rfl ?_
  exact t_Mo_marked_J42 G hR hL C  v1 q1 q3 x5 q36 hr
set_option maxRecDepth 100000 in
theorem c_Mo_marked (l : Launch)  (v1 : Int32) (s : St) {q : St} (h : f_Mo_marked v1 s = some q) : CT SM l yX12_marked cX12_marked 7 none 2 43 (fun a => [.ref (a 0), .int v1]) s q (fun _ => none) :=
  ct_V okX_M (by decide) (fun _ => Nat.le_of_ble_eq_true rfl) (fun G hl hR hL C hr => t_Mo_marked G hR hL C (Acc := fun v => v = q)  v1 s (fun v hv => by rw [hv]; exact hr) ⟨_, h, rfl⟩)
noncomputable def f_Mo_look_J135_1 (v1 : Int32) (v2 : Int32) (v4 : Int32) (v5 : Int32) (s : St) : Option ((Int32 × Int32) ⊕ (Int32 × Int32)) :=
  some (.inl (v4, (v5 + (-1))))
set_option maxHeartbeats 4000000 in
set_option maxRecDepth 100000 in
theorem t_Mo_look_J135_1 (G : GG) (hR : gR G = rmx 3 68) (hL : gL G = 6) (C : Cx SM G cX12_look RX12) {Acc : ((Int32 × Int32) ⊕ (Int32 × Int32)) → Prop}  (v1 : Int32) (v2 : Int32) (v4 : Int32) (v5 : Int32) (s : St) (hb1 : ∀ (a4 : Int32) (a5 : Int32), Acc (.inl (a4, a5)) → KK SM G 82 [(0, .ref (ad G 0)), (1, .int v1), (2, .int v2), (4, .int a4), (5, .int a5)] [] s) (hx1 : ∀ (a4 : Int32) (a5 : Int32), Acc (.inr (a4, a5)) → KK SM G 141 [(0, .ref (ad G 0)), (1, .int v1), (2, .int v2), (4, .int a4), (5, .int a5)] [] s) : JJ SM G Acc (f_Mo_look_J135_1 v1 v2 v4 v5 s) 135 [(0, .ref (ad G 0)), (1, .int v1), (2, .int v2), (4, .int v4), (5, .int v5)] [] s := by
  unfold f_Mo_look_J135_1
  refine jr_iinc C 4 rfl ii_m1 (lv' := [(5, .int (v5 + (-1))), (0, .ref (ad G 0)), (1, .int v1), (2, .int v2), (4, .int v4)]) (ltL hL rfl) rfl dX12_look_135 ?_
  refine jr_goto C (tgt := 82) dX12_look_138 (by decide) ?_
  refine jr_lv [1, 2, 3, 4, 0] rfl ?_
  exact jr_end (fun h => hb1 v4 (v5 + (-1)) h)
noncomputable def f_Mo_look_J129_1 (v1 : Int32) (v2 : Int32) (v5 : Int32) (s : St) : Option ((Int32 × Int32) ⊕ (Int32 × Int32)) :=
  lt (v2 + v5) fun x15 =>
  f_Mo_look_J135_1 v1 v2 x15 v5 s
set_option maxHeartbeats 4000000 in
set_option maxRecDepth 100000 in
theorem t_Mo_look_J129_1 (G : GG) (hR : gR G = rmx 3 68) (hL : gL G = 6) (C : Cx SM G cX12_look RX12) {Acc : ((Int32 × Int32) ⊕ (Int32 × Int32)) → Prop}  (v1 : Int32) (v2 : Int32) (v5 : Int32) (s : St) (hb1 : ∀ (a4 : Int32) (a5 : Int32), Acc (.inl (a4, a5)) → KK SM G 82 [(0, .ref (ad G 0)), (1, .int v1), (2, .int v2), (4, .int a4), (5, .int a5)] [] s) (hx1 : ∀ (a4 : Int32) (a5 : Int32), Acc (.inr (a4, a5)) → KK SM G 141 [(0, .ref (ad G 0)), (1, .int v1), (2, .int v2), (4, .int a4), (5, .int a5)] [] s) : JJ SM G Acc (f_Mo_look_J129_1 v1 v2 v5 s) 129 [(0, .ref (ad G 0)), (1, .int v1), (2, .int v2), (5, .int v5)] [] s := by
  unfold f_Mo_look_J129_1
  refine jr_iload_n C 2 rfl rfl dX12_look_129 ?_
  refine jr_iload C 3 rfl dX12_look_130 ?_
  refine jr_iadd C dX12_look_132 ?_
  refine jr_ltI (fun x15 => ?_)
  refine jr_istore C (lv' := [(4, .int x15), (0, .ref (ad G 0)), (1, .int v1), (2, .int v2), (5, .int v5)]) (ltL hL rfl) rfl dX12_look_133 ?_
  refine jr_lv [1, 2, 3, 0, 4] rfl ?_
  exact t_Mo_look_J135_1 G hR hL C  v1 v2 x15 v5 s hb1 hx1
noncomputable def f_Mo_look_L82 (v1 : Int32) (v2 : Int32) (v4 : Int32) (v5 : Int32) (s : St) : Option ((Int32 × Int32) ⊕ (Int32 × Int32)) :=
  if v5 < 0 then
  some (.inr (v4, v5))
  else
  gd (((4096 * (s.1 0 28)) + v2) + v5) 8192 <|
  if (s.1 19 ((((4096 * (s.1 0 28)) + v2) + v5) : Int32).toNatClampNeg) = 0 then
  f_Mo_look_J129_1 v1 v2 v5 s
  else
  gd (((4096 * (s.1 0 28)) + v2) + v5) 8192 <|
  if (s.1 17 ((((4096 * (s.1 0 28)) + v2) + v5) : Int32).toNatClampNeg) = 0 then
  f_Mo_look_J135_1 v1 v2 v4 v5 s
  else
  f_Mo_look_J129_1 v1 v2 v5 s
set_option maxHeartbeats 4000000 in
set_option maxRecDepth 100000 in
theorem t_Mo_look_L82 (G : GG) (hR : gR G = rmx 3 68) (hL : gL G = 6) (C : Cx SM G cX12_look RX12) {Acc : ((Int32 × Int32) ⊕ (Int32 × Int32)) → Prop}  (v1 : Int32) (v2 : Int32) (v4 : Int32) (v5 : Int32) (s : St) (hb1 : ∀ (a4 : Int32) (a5 : Int32), Acc (.inl (a4, a5)) → KK SM G 82 [(0, .ref (ad G 0)), (1, .int v1), (2, .int v2), (4, .int a4), (5, .int a5)] [] s) (hx1 : ∀ (a4 : Int32) (a5 : Int32), Acc (.inr (a4, a5)) → KK SM G 141 [(0, .ref (ad G 0)), (1, .int v1), (2, .int v2), (4, .int a4), (5, .int a5)] [] s) : JJ SM G Acc (f_Mo_look_L82 v1 v2 v4 v5 s) 82 [(0, .ref (ad G 0)), (1, .int v1), (2, .int v2), (4, .int v4), (5, .int v5)] [] s := by
  unfold f_Mo_look_L82
  refine jr_iload C 4 rfl dX12_look_82 ?_
  refine jr_if_lt C (tgt := 141) dX12_look_84 (by decide) (fun h13 => ?_) (fun h13 => ?_)
  · refine jo_pos h13 ?_
    exact jr_end (fun h => hx1 v4 v5 h)
  refine jo_neg h13 ?_
  refine jr_aload_n C 0 rfl rfl dX12_look_87 ?_
  refine jr_getR C FX_10 36 oS_0.1 oS_0.2 ff_10_36.1 ff_10_36.2 rfl fl_X12_73 dX12_look_88 ?_
  refine jr_sipush C sp_4096 dX12_look_91 ?_
  refine jr_aload_n C 0 rfl rfl dX12_look_94 ?_
  refine jr_getI C FX_10 28 oS_0.1 oS_0.2 ff_10_28.1 ff_10_28.2 fl_X12_394 dX12_look_95 ?_
  refine jr_imul C dX12_look_98 ?_
  refine jr_iload_n C 2 rfl rfl dX12_look_99 ?_
  refine jr_iadd C dX12_look_100 ?_
  refine jr_iload C 4 rfl dX12_look_101 ?_
  refine jr_iadd C dX12_look_103 ?_
  refine jr_zald C oS_19.1 oS_19.2.1 oS_19.2.2 dX12_look_104 ?_
  refine jr_if_eq C (tgt := 129) dX12_look_105 (by decide) (fun h14 => ?_) (fun h14 => ?_)
  · refine jo_pos h14 ?_
    refine jr_lv [0, 1, 2, 4] rfl ?_
    exact t_Mo_look_J129_1 G hR hL C  v1 v2 v5 s hb1 hx1
  refine jo_neg h14 ?_
  refine jr_aload_n C 0 rfl rfl dX12_look_108 ?_
  refine jr_getR C FX_10 34 oS_0.1 oS_0.2 ff_10_34.1 ff_10_34.2 rfl fl_X12_67 dX12_look_109 ?_
  refine jr_sipush C sp_4096 dX12_look_112 ?_
  refine jr_aload_n C 0 rfl rfl dX12_look_115 ?_
  refine jr_getI C FX_10 28 oS_0.1 oS_0.2 ff_10_28.1 ff_10_28.2 fl_X12_394 dX12_look_116 ?_
  refine jr_imul C dX12_look_119 ?_
  refine jr_iload_n C 2 rfl rfl dX12_look_120 ?_
  refine jr_iadd C dX12_look_121 ?_
  refine jr_iload C 4 rfl dX12_look_122 ?_
  refine jr_iadd C dX12_look_124 ?_
  refine jr_iald C oS_17.1 oS_17.2.1 oS_17.2.2 dX12_look_125 ?_
  refine jr_if_eq C (tgt := 135) dX12_look_126 (by decide) (fun h16 => ?_) (fun h16 => ?_)
  · refine jo_pos h16 ?_
    exact t_Mo_look_J135_1 G hR hL C  v1 v2 v4 v5 s hb1 hx1
  refine jo_neg h16 ?_
  refine jr_lv [0, 1, 2, 4] rfl ?_
  exact t_Mo_look_J129_1 G hR hL C  v1 v2 v5 s hb1 hx1
noncomputable def f_Mo_look_J60 (v1 : Int32) (v2 : Int32) (v3 : Int32) (s : St) : Option St :=
  if (f_Mo_areIn v2 v3) = 0 then
  ((f_Mo_trap 4 s).bind fun q20 =>
  some q20)
  else
  lt (v3 - 1) fun x12 =>
  (wh (fun a : (Int32 × Int32) => f_Mo_look_L82 v1 v2 a.1 a.2 s) ((-1), x12)).bind (fun b17 =>
  gd v1 1200 <|
  (f_Mo_give (s.1 5 (v1 : Int32).toNatClampNeg) (b17.1) 0 0 s).bind fun q18 =>
  some q18)
set_option maxHeartbeats 4000000 in
set_option maxRecDepth 100000 in
theorem t_Mo_look_J60 (G : GG) (hR : gR G = rmx 3 68) (hL : gL G = 6) (C : Cx SM G cX12_look RX12) {Acc : St → Prop}  (v1 : Int32) (v2 : Int32) (v3 : Int32) (s : St) (hr : ∀ v : St, Acc v → RtV SM G cX12_look v) : JJ SM G Acc (f_Mo_look_J60 v1 v2 v3 s) 60 [(0, .ref (ad G 0)), (1, .int v1), (2, .int v2), (3, .int v3)] [] s := by
  unfold f_Mo_look_J60
  refine jr_iload_n C 2 rfl rfl dX12_look_60 ?_
  refine jr_iload_n C 3 rfl rfl dX12_look_61 ?_
  refine jr_callSI C km_X12_500 (rk hR rfl) (c_Mo_areIn (gl G) v2 v3 s) rfl rfl rfl (Nat.le_of_ble_eq_true rfl) dX12_look_62 ?_
  refine jr_if_ne C (tgt := 74) dX12_look_65 (by decide) (fun h11 => ?_) (fun h11 => ?_)
  · refine jo_neg h11 ?_
    refine jr_iconst C ic_m1 dX12_look_74 ?_
    refine jr_istore C (lv' := [(4, .int (-1)), (0, .ref (ad G 0)), (1, .int v1), (2, .int v2), (3, .int v3)]) (ltL hL rfl) rfl dX12_look_75 ?_
    refine jr_iload_n C 4 rfl rfl dX12_look_77 ?_
    refine jr_iconst C ic_1 dX12_look_78 ?_
    refine jr_isub C dX12_look_79 ?_
    refine jr_ltI (fun x12 => ?_)
    refine jr_istore C (lv' := [(5, .int x12), (4, .int (-1)), (0, .ref (ad G 0)), (1, .int v1), (2, .int v2), (3, .int v3)]) (ltL hL rfl) rfl dX12_look_80 ?_
    refine jr_lv [2, 3, 4, 1, 0] rfl ?_
    refine jr_loopB (pc := 82) (pcx := 141) (f := fun a : (Int32 × Int32) => f_Mo_look_L82 v1 v2 a.1 a.2 s) (fun a : (Int32 × Int32) => [(0, .ref (ad G 0)), (1, .int v1), (2, .int v2), (4, .int (a.1)), (5, .int (a.2))]) (fun a : (Int32 × Int32) => s) ((-1), x12) (fun a => t_Mo_look_L82 G hR hL C  v1 v2 a.1 a.2 s (fun _ _ h => h) (fun _ _ h => h)) (fun b17 => ?_)
    refine jr_aload_n C 0 rfl rfl dX12_look_141 ?_
    refine jr_aload_n C 0 rfl rfl dX12_look_142 ?_
    refine jr_getR C FX_10 6 oS_0.1 oS_0.2 ff_10_6.1 ff_10_6.2 rfl fl_X12_24 dX12_look_143 ?_
    refine jr_iload_n C 1 rfl rfl dX12_look_146 ?_
    refine jr_iald C oS_5.1 oS_5.2.1 oS_5.2.2 dX12_look_147 ?_
    refine jr_iload C 3 rfl dX12_look_148 ?_
    refine jr_iconst C ic_0 dX12_look_150 ?_
    refine jr_iconst C ic_0 dX12_look_151 ?_
    refine jr_bind (fun q18 e19 => ?_)
    refine jr_callVV C FX_10 km_X12_473 oS_0.1 oS_0.2 (rk hR rfl) (c_Mo_give (gl G) (s.1 5 (v1 : Int32).toNatClampNeg) (b17.1) 0 0 s e19) rfl rfl rfl (Nat.le_of_ble_eq_true rfl) dX12_look_152 ?_
    exact jr_end (fun h => hr q18 h _ _ dX12_look_155)
  refine jo_pos h11 ?_
  refine jr_aload_n C 0 rfl rfl dX12_look_68 ?_
  refine jr_iconst C ic_4 dX12_look_69 ?_
  refine jr_bind (fun q20 e21 => ?_)
  refine jr_callVV C FX_10 km_X12_423 oS_0.1 oS_0.2 (rk hR rfl) (c_Mo_trap (gl G) 4 s e21) rfl rfl rfl (Nat.le_of_ble_eq_true rfl) dX12_look_70 ?_
  exact jr_end (fun h => hr q20 h _ _ dX12_look_73)
noncomputable def f_Mo_look_J38 (v1 : Int32) (v2 : Int32) (v3 : Int32) (s : St) : Option St :=
  (f_Mo_shade (v1 + 2) s).bind fun q8 =>
  if q8 = 0 then
  f_Mo_look_J60 v1 v2 v3 s
  else
  (f_Mo_origin (v1 + 2) s).bind fun q22 =>
  (f_Mo_told 5 q22 s).bind fun q24 =>
  f_Mo_look_J60 v1 v2 v3 q24
set_option maxHeartbeats 4000000 in
set_option maxRecDepth 100000 in
theorem t_Mo_look_J38 (G : GG) (hR : gR G = rmx 3 68) (hL : gL G = 6) (C : Cx SM G cX12_look RX12) {Acc : St → Prop}  (v1 : Int32) (v2 : Int32) (v3 : Int32) (s : St) (hr : ∀ v : St, Acc v → RtV SM G cX12_look v) : JJ SM G Acc (f_Mo_look_J38 v1 v2 v3 s) 38 [(0, .ref (ad G 0)), (1, .int v1), (2, .int v2), (3, .int v3)] [] s := by
  unfold f_Mo_look_J38
  refine jr_aload_n C 0 rfl rfl dX12_look_38 ?_
  refine jr_iload_n C 1 rfl rfl dX12_look_39 ?_
  refine jr_iconst C ic_2 dX12_look_40 ?_
  refine jr_iadd C dX12_look_41 ?_
  refine jr_bind (fun q8 e9 => ?_)
  refine jr_callVI C FX_10 km_X12_454 oS_0.1 oS_0.2 (rk hR rfl) (c_Mo_shade (gl G) (v1 + 2) s e9) rfl rfl rfl (Nat.le_of_ble_eq_true rfl) dX12_look_42 ?_
  refine jr_if_eq C (tgt := 60) dX12_look_45 (by decide) (fun h10 => ?_) (fun h10 => ?_)
  · refine jo_pos h10 ?_
    exact t_Mo_look_J60 G hR hL C  v1 v2 v3 s hr
  refine jo_neg h10 ?_
  refine jr_aload_n C 0 rfl rfl dX12_look_48 ?_
  refine jr_iconst C ic_5 dX12_look_49 ?_
  refine jr_aload_n C 0 rfl rfl dX12_look_50 ?_
  refine jr_iload_n C 1 rfl rfl dX12_look_51 ?_
  refine jr_iconst C ic_2 dX12_look_52 ?_
  refine jr_iadd C dX12_look_53 ?_
  refine jr_bind (fun q22 e23 => ?_)
  refine jr_callVI C FX_10 km_X12_457 oS_0.1 oS_0.2 (rk hR rfl) (c_Mo_origin (gl G) (v1 + 2) s e23) rfl rfl rfl (Nat.le_of_ble_eq_true rfl) dX12_look_54 ?_
  refine jr_bind (fun q24 e25 => ?_)
  refine jr_callVV C FX_10 km_X12_460 oS_0.1 oS_0.2 (rk hR rfl) (c_Mo_told (gl G) 5 q22 s e25) rfl rfl rfl (Nat.le_of_ble_eq_true rfl) dX12_look_57 ?_
  exact t_Mo_look_J60 G hR hL C  v1 v2 v3 q24 hr
noncomputable def f_Mo_look (v1 : Int32) (s : St) : Option St :=
  (f_Mo_value (v1 + 1) s).bind fun q1 =>
  (f_Mo_value (v1 + 2) s).bind fun q3 =>
  (f_Mo_shade (v1 + 1) s).bind fun q5 =>
  if q5 = 0 then
  f_Mo_look_J38 v1 q1 q3 s
  else
  (f_Mo_origin (v1 + 1) s).bind fun q26 =>
  (f_Mo_told 2 q26 s).bind fun q28 =>
  f_Mo_look_J38 v1 q1 q3 q28
set_option maxHeartbeats 4000000 in
set_option maxRecDepth 100000 in
theorem t_Mo_look (G : GG) (hR : gR G = rmx 3 68) (hL : gL G = 6) (C : Cx SM G cX12_look RX12) {Acc : St → Prop}  (v1 : Int32) (s : St) (hr : ∀ v : St, Acc v → RtV SM G cX12_look v) : JJ SM G Acc (f_Mo_look v1 s) 0 [(0, .ref (ad G 0)), (1, .int v1)] [] s := by
  unfold f_Mo_look
  refine jr_aload_n C 0 rfl rfl dX12_look_0 ?_
  refine jr_iload_n C 1 rfl rfl dX12_look_1 ?_
  refine jr_iconst C ic_1 dX12_look_2 ?_
  refine jr_iadd C dX12_look_3 ?_
  refine jr_bind (fun q1 e2 => ?_)
  refine jr_callVI C FX_10 km_X12_451 oS_0.1 oS_0.2 (rk hR rfl) (c_Mo_value (gl G) (v1 + 1) s e2) rfl rfl rfl (Nat.le_of_ble_eq_true rfl) dX12_look_4 ?_
  refine jr_istore_n C (lv' := [(2, .int q1), (0, .ref (ad G 0)), (1, .int v1)]) (ltL hL rfl) rfl rfl dX12_look_7 ?_
  refine jr_aload_n C 1 rfl rfl dX12_look_8 ?_
  refine jr_iload_n C 2 rfl rfl dX12_look_9 ?_
  refine jr_iconst C ic_2 dX12_look_10 ?_
  refine jr_iadd C dX12_look_11 ?_
  refine jr_bind (fun q3 e4 => ?_)
  refine jr_callVI C FX_10 km_X12_451 oS_0.1 oS_0.2 (rk hR rfl) (c_Mo_value (gl G) (v1 + 2) s e4) rfl rfl rfl (Nat.le_of_ble_eq_true rfl) dX12_look_12 ?_
  refine jr_istore_n C (lv' := [(3, .int q3), (2, .int q1), (0, .ref (ad G 0)), (1, .int v1)]) (ltL hL rfl) rfl rfl dX12_look_15 ?_
  refine jr_aload_n C 2 rfl rfl dX12_look_16 ?_
  refine jr_iload_n C 3 rfl rfl dX12_look_17 ?_
  refine jr_iconst C ic_1 dX12_look_18 ?_
  refine jr_iadd C dX12_look_19 ?_
  refine jr_bind (fun q5 e6 => ?_)
  refine jr_callVI C FX_10 km_X12_454 oS_0.1 oS_0.2 (rk hR rfl) (c_Mo_shade (gl G) (v1 + 1) s e6) rfl rfl rfl (Nat.le_of_ble_eq_true rfl) dX12_look_20 ?_
  refine jr_if_eq C (tgt := 38) dX12_look_23 (by decide) (fun h7 => ?_) (fun h7 => ?_)
  · refine jo_pos h7 ?_
    refine jr_lv [2, 3, 1, 0] rfl ?_
    exact t_Mo_look_J38 G hR hL C  v1 q1 q3 s hr
  refine jo_neg h7 ?_
  refine jr_aload_n C 2 rfl rfl dX12_look_26 ?_
  refine jr_iconst C ic_2 dX12_look_27 ?_
  refine jr_aload_n C 2 rfl rfl dX12_look_28 ?_
  refine jr_iload_n C 3 rfl rfl dX12_look_29 ?_
  refine jr_iconst C ic_1 dX12_look_30 ?_
  refine jr_iadd C dX12_look_31 ?_
  refine jr_bind (fun q26 e27 => ?_)
  refine jr_callVI C FX_10 km_X12_457 oS_0.1 oS_0.2 (rk hR rfl) (c_Mo_origin (gl G) (v1 + 1) s e27) rfl rfl rfl (Nat.le_of_ble_eq_true rfl) dX12_look_32 ?_
  refine jr_bind (fun q28 e29 => ?_)
  refine jr_callVV C FX_10 km_X12_460 oS_0.1 oS_0.2 (rk hR rfl) (c_Mo_told (gl G) 2 q26 s e29) rfl rfl rfl (Nat.le_of_ble_eq_true rfl) dX12_look_35 ?_
  refine jr_lv [2, 3, 1, 0] rfl ?_
  exact t_Mo_look_J38 G hR hL C  v1 q1 q3 q28 hr
set_option maxRecDepth 100000 in
theorem c_Mo_look (l : Launch)  (v1 : Int32) (s : St) {q : St} (h : f_Mo_look v1 s = some q) : CT SM l yX12_look cX12_look 6 none 3 68 (fun a => [.ref (a 0), .int v1]) s q (fun _ => none) :=
  ct_V okX_M (by decide) (fun _ => Nat.le_of_ble_eq_true rfl) (fun G hl hR hL C hr => t_Mo_look G hR hL C (Acc := fun v => v = q)  v1 s (fun v hv => by rw [hv]; exact hr) ⟨_, h, rfl⟩)
noncomputable def f_Mo_blockOf_J150_2 (v1 : Int32) (v2 : Int32) (v4 : Int32) (w0 : Int32) (s : St) : Option ((Int32 × Int32) ⊕ (Int32 × Int32)) :=
  some (.inl (w0, (v4 + 1)))
set_option maxHeartbeats 4000000 in
set_option maxRecDepth 100000 in
theorem t_Mo_blockOf_J150_2 (G : GG) (hR : gR G = rmx 2 43) (hL : gL G = 6) (C : Cx SM G cX12_blockOf RX12) {Acc : ((Int32 × Int32) ⊕ (Int32 × Int32)) → Prop}  (v1 : Int32) (v2 : Int32) (v4 : Int32) (w0 : Int32) (s : St) (hb2 : ∀ (a3 : Int32) (a4 : Int32), Acc (.inl (a3, a4)) → KK SM G 59 [(0, .ref (ad G 0)), (1, .int v1), (2, .int v2), (3, .int a3), (4, .int a4)] [] s) (hx2 : ∀ (a3 : Int32) (a4 : Int32), Acc (.inr (a3, a4)) → KK SM G 157 [(0, .ref (ad G 0)), (1, .int v1), (2, .int v2), (3, .int a3), (4, .int a4)] [] s) : JJ SM G Acc (f_Mo_blockOf_J150_2 v1 v2 v4 w0 s) 150 [(0, .ref (ad G 0)), (1, .int v1), (2, .int v2), (4, .int v4)] [.int w0] s := by
  unfold f_Mo_blockOf_J150_2
  refine jr_istore_n C (lv' := [(3, .int w0), (0, .ref (ad G 0)), (1, .int v1), (2, .int v2), (4, .int v4)]) (ltL hL rfl) rfl rfl dX12_blockOf_150 ?_
  refine jr_iinc C 4 rfl ii_1 (lv' := [(4, .int (v4 + 1)), (3, .int w0), (0, .ref (ad G 0)), (1, .int v1), (2, .int v2)]) (ltL hL rfl) rfl dX12_blockOf_151 ?_
  refine jr_goto C (tgt := 59) dX12_blockOf_154 (by decide) ?_
  refine jr_lv [2, 3, 4, 1, 0] rfl ?_
  exact jr_end (fun h => hb2 w0 (v4 + 1) h)
noncomputable def f_Mo_blockOf_J145_2 (v1 : Int32) (v2 : Int32) (v4 : Int32) (s : St) : Option ((Int32 × Int32) ⊕ (Int32 × Int32)) :=
  f_Mo_blockOf_J150_2 v1 v2 v4 1 s
set_option maxHeartbeats 4000000 in
set_option maxRecDepth 100000 in
theorem t_Mo_blockOf_J145_2 (G : GG) (hR : gR G = rmx 2 43) (hL : gL G = 6) (C : Cx SM G cX12_blockOf RX12) {Acc : ((Int32 × Int32) ⊕ (Int32 × Int32)) → Prop}  (v1 : Int32) (v2 : Int32) (v4 : Int32) (s : St) (hb2 : ∀ (a3 : Int32) (a4 : Int32), Acc (.inl (a3, a4)) → KK SM G 59 [(0, .ref (ad G 0)), (1, .int v1), (2, .int v2), (3, .int a3), (4, .int a4)] [] s) (hx2 : ∀ (a3 : Int32) (a4 : Int32), Acc (.inr (a3, a4)) → KK SM G 157 [(0, .ref (ad G 0)), (1, .int v1), (2, .int v2), (3, .int a3), (4, .int a4)] [] s) : JJ SM G Acc (f_Mo_blockOf_J145_2 v1 v2 v4 s) 145 [(0, .ref (ad G 0)), (1, .int v1), (2, .int v2), (4, .int v4)] [] s := by
  unfold f_Mo_blockOf_J145_2
  refine jr_iconst C ic_1 dX12_blockOf_145 ?_
  refine jr_goto C (tgt := 150) dX12_blockOf_146 (by decide) ?_
  exact t_Mo_blockOf_J150_2 G hR hL C  v1 v2 v4 1 s hb2 hx2
noncomputable def f_Mo_blockOf_L59_2 (v1 : Int32) (v2 : Int32) (v3 : Int32) (v4 : Int32) (s : St) : Option ((Int32 × Int32) ⊕ (Int32 × Int32)) :=
  if v3 = 0 then
  some (.inr (v3, v4))
  else
  gd (s.1 0 28) 2 <|
  if ((101 * (s.1 0 28)) + (s.1 34 ((s.1 0 28) : Int32).toNatClampNeg)) < v4 then
  some (.inr (v3, v4))
  else
  gd v4 202 <|
  if (s.1 30 (v4 : Int32).toNatClampNeg) = 0 then
  f_Mo_blockOf_J145_2 v1 v2 v4 s
  else
  gd v4 202 <|
  if ((f_Mo_up8 (v2 + v1)) + 8) ≤ ((s.1 28 (v4 : Int32).toNatClampNeg) - 8) then
  f_Mo_blockOf_J145_2 v1 v2 v4 s
  else
  gd v4 202 <|
  gd v4 202 <|
  if (v2 - 8) < ((f_Mo_up8 ((s.1 28 (v4 : Int32).toNatClampNeg) + (s.1 29 (v4 : Int32).toNatClampNeg))) + 8) then
  f_Mo_blockOf_J150_2 v1 v2 v4 0 s
  else
  f_Mo_blockOf_J145_2 v1 v2 v4 s
set_option maxHeartbeats 4000000 in
set_option maxRecDepth 100000 in
theorem t_Mo_blockOf_L59_2 (G : GG) (hR : gR G = rmx 2 43) (hL : gL G = 6) (C : Cx SM G cX12_blockOf RX12) {Acc : ((Int32 × Int32) ⊕ (Int32 × Int32)) → Prop}  (v1 : Int32) (v2 : Int32) (v3 : Int32) (v4 : Int32) (s : St) (hb2 : ∀ (a3 : Int32) (a4 : Int32), Acc (.inl (a3, a4)) → KK SM G 59 [(0, .ref (ad G 0)), (1, .int v1), (2, .int v2), (3, .int a3), (4, .int a4)] [] s) (hx2 : ∀ (a3 : Int32) (a4 : Int32), Acc (.inr (a3, a4)) → KK SM G 157 [(0, .ref (ad G 0)), (1, .int v1), (2, .int v2), (3, .int a3), (4, .int a4)] [] s) : JJ SM G Acc (f_Mo_blockOf_L59_2 v1 v2 v3 v4 s) 59 [(0, .ref (ad G 0)), (1, .int v1), (2, .int v2), (3, .int v3), (4, .int v4)] [] s := by
  unfold f_Mo_blockOf_L59_2
  refine jr_iload_n C 3 rfl rfl dX12_blockOf_59 ?_
  refine jr_if_eq C (tgt := 157) dX12_blockOf_60 (by decide) (fun h6 => ?_) (fun h6 => ?_)
  · refine jo_pos h6 ?_
    exact jr_end (fun h => hx2 v3 v4 h)
  refine jo_neg h6 ?_
  refine jr_iload C 4 rfl dX12_blockOf_63 ?_
  refine jr_bipush C bp_101 dX12_blockOf_65 ?_
  refine jr_aload_n C 0 rfl rfl dX12_blockOf_67 ?_
  refine jr_getI C FX_10 28 oS_0.1 oS_0.2 ff_10_28.1 ff_10_28.2 fl_X12_394 dX12_blockOf_68 ?_
  refine jr_imul C dX12_blockOf_71 ?_
  refine jr_aload_n C 0 rfl rfl dX12_blockOf_72 ?_
  refine jr_getR C FX_10 51 oS_0.1 oS_0.2 ff_10_51.1 ff_10_51.2 rfl fl_X12_118 dX12_blockOf_73 ?_
  refine jr_aload_n C 0 rfl rfl dX12_blockOf_76 ?_
  refine jr_getI C FX_10 28 oS_0.1 oS_0.2 ff_10_28.1 ff_10_28.2 fl_X12_394 dX12_blockOf_77 ?_
  refine jr_iald C oS_34.1 oS_34.2.1 oS_34.2.2 dX12_blockOf_80 ?_
  refine jr_iadd C dX12_blockOf_81 ?_
  refine jr_icmp_gt C (tgt := 157) dX12_blockOf_82 (by decide) (fun h7 => ?_) (fun h7 => ?_)
  · refine jo_pos h7 ?_
    exact jr_end (fun h => hx2 v3 v4 h)
  refine jo_neg h7 ?_
  refine jr_aload_n C 0 rfl rfl dX12_blockOf_85 ?_
  refine jr_getR C FX_10 47 oS_0.1 oS_0.2 ff_10_47.1 ff_10_47.2 rfl fl_X12_106 dX12_blockOf_86 ?_
  refine jr_iload C 4 rfl dX12_blockOf_89 ?_
  refine jr_iald C oS_30.1 oS_30.2.1 oS_30.2.2 dX12_blockOf_91 ?_
  refine jr_if_eq C (tgt := 145) dX12_blockOf_92 (by decide) (fun h8 => ?_) (fun h8 => ?_)
  · refine jo_pos h8 ?_
    refine jr_lv [0, 1, 2, 4] rfl ?_
    exact t_Mo_blockOf_J145_2 G hR hL C  v1 v2 v4 s hb2 hx2
  refine jo_neg h8 ?_
  refine jr_iload_n C 2 rfl rfl dX12_blockOf_95 ?_
  refine jr_iload_n C 1 rfl rfl dX12_blockOf_96 ?_
  refine jr_iadd C dX12_blockOf_97 ?_
  refine jr_callSI C km_X12_477 (rk hR rfl) (c_Mo_up8 (gl G) (v2 + v1) s) rfl rfl rfl (Nat.le_of_ble_eq_true rfl) dX12_blockOf_98 ?_
  refine jr_bipush C bp_8 dX12_blockOf_101 ?_
  refine jr_iadd C dX12_blockOf_103 ?_
  refine jr_aload_n C 0 rfl rfl dX12_blockOf_104 ?_
  refine jr_getR C FX_10 45 oS_0.1 oS_0.2 ff_10_45.1 ff_10_45.2 rfl fl_X12_100 dX12_blockOf_105 ?_
  refine jr_iload C 4 rfl dX12_blockOf_108 ?_
  refine jr_iald C oS_28.1 oS_28.2.1 oS_28.2.2 dX12_blockOf_110 ?_
  refine jr_bipush C bp_8 dX12_blockOf_111 ?_
  refine jr_isub C dX12_blockOf_113 ?_
  refine jr_icmp_le C (tgt := 145) dX12_blockOf_114 (by decide) (fun h9 => ?_) (fun h9 => ?_)
  · refine jo_pos h9 ?_
    refine jr_lv [0, 1, 2, 4] rfl ?_
    exact t_Mo_blockOf_J145_2 G hR hL C  v1 v2 v4 s hb2 hx2
  refine jo_neg h9 ?_
  refine jr_aload_n C 0 rfl rfl dX12_blockOf_117 ?_
  refine jr_getR C FX_10 45 oS_0.1 oS_0.2 ff_10_45.1 ff_10_45.2 rfl fl_X12_100 dX12_blockOf_118 ?_
  refine jr_iload C 4 rfl dX12_blockOf_121 ?_
  refine jr_iald C oS_28.1 oS_28.2.1 oS_28.2.2 dX12_blockOf_123 ?_
  refine jr_aload_n C 0 rfl rfl dX12_blockOf_124 ?_
  refine jr_getR C FX_10 46 oS_0.1 oS_0.2 ff_10_46.1 ff_10_46.2 rfl fl_X12_103 dX12_blockOf_125 ?_
  refine jr_iload C 4 rfl dX12_blockOf_128 ?_
  refine jr_iald C oS_29.1 oS_29.2.1 oS_29.2.2 dX12_blockOf_130 ?_
  refine jr_iadd C dX12_blockOf_131 ?_
  refine jr_callSI C km_X12_477 (rk hR rfl) (c_Mo_up8 (gl G) ((s.1 28 (v4 : Int32).toNatClampNeg) + (s.1 29 (v4 : Int32).toNatClampNeg)) s) rfl rfl rfl (Nat.le_of_ble_eq_true rfl) dX12_blockOf_132 ?_
  refine jr_bipush C bp_8 dX12_blockOf_135 ?_
  refine jr_iadd C dX12_blockOf_137 ?_
  refine jr_iload_n C 2 rfl rfl dX12_blockOf_138 ?_
  refine jr_bipush C bp_8 dX12_blockOf_139 ?_
  refine jr_isub C dX12_blockOf_141 ?_
  refine jr_icmp_gt C (tgt := 149) dX12_blockOf_142 (by decide) (fun h10 => ?_) (fun h10 => ?_)
  · refine jo_pos h10 ?_
    refine jr_iconst C ic_0 dX12_blockOf_149 ?_
    refine jr_lv [0, 1, 2, 4] rfl ?_
    exact t_Mo_blockOf_J150_2 G hR hL C  v1 v2 v4 0 s hb2 hx2
  refine jo_neg h10 ?_
  refine jr_lv [0, 1, 2, 4] rfl ?_
  exact t_Mo_blockOf_J145_2 G hR hL C  v1 v2 v4 s hb2 hx2
noncomputable def f_Mo_blockOf_L242_2 (v1 : Int32) (v2 : Int32) (v5 : Int32) (s : St) : Option ((Int32 × St) ⊕ (Int32 × St)) :=
  if v1 ≤ v5 then
  some (.inr (v5, s))
  else
  gd (s.1 0 28) 2 <|
  (f_Mo_unset (v2 + v5) (8 + (s.1 34 ((s.1 0 28) : Int32).toNatClampNeg)) s).bind fun q21 =>
  some (.inl ((v5 + 1), q21))
set_option maxHeartbeats 4000000 in
set_option maxRecDepth 100000 in
theorem t_Mo_blockOf_L242_2 (G : GG) (hR : gR G = rmx 2 43) (hL : gL G = 6) (C : Cx SM G cX12_blockOf RX12) {Acc : ((Int32 × St) ⊕ (Int32 × St)) → Prop}  (v1 : Int32) (v2 : Int32) (v5 : Int32) (s : St) (hb2 : ∀ (a5 : Int32) (t : St), Acc (.inl (a5, t)) → KK SM G 242 [(0, .ref (ad G 0)), (1, .int v1), (2, .int v2), (5, .int a5)] [] t) (hx2 : ∀ (a5 : Int32) (t : St), Acc (.inr (a5, t)) → KK SM G 274 [(0, .ref (ad G 0)), (1, .int v1), (2, .int v2), (5, .int a5)] [] t) : JJ SM G Acc (f_Mo_blockOf_L242_2 v1 v2 v5 s) 242 [(0, .ref (ad G 0)), (1, .int v1), (2, .int v2), (5, .int v5)] [] s := by
  unfold f_Mo_blockOf_L242_2
  refine jr_iload C 3 rfl dX12_blockOf_242 ?_
  refine jr_iload_n C 1 rfl rfl dX12_blockOf_244 ?_
  refine jr_icmp_ge C (tgt := 274) dX12_blockOf_245 (by decide) (fun h20 => ?_) (fun h20 => ?_)
  · refine jo_pos h20 ?_
    exact jr_end (fun h => hx2 v5 s h)
  refine jo_neg h20 ?_
  refine jr_aload_n C 0 rfl rfl dX12_blockOf_248 ?_
  refine jr_iload_n C 2 rfl rfl dX12_blockOf_249 ?_
  refine jr_iload C 3 rfl dX12_blockOf_250 ?_
  refine jr_iadd C dX12_blockOf_252 ?_
  refine jr_bipush C bp_8 dX12_blockOf_253 ?_
  refine jr_aload_n C 0 rfl rfl dX12_blockOf_255 ?_
  refine jr_getR C FX_10 51 oS_0.1 oS_0.2 ff_10_51.1 ff_10_51.2 rfl fl_X12_118 dX12_blockOf_256 ?_
  refine jr_aload_n C 0 rfl rfl dX12_blockOf_259 ?_
  refine jr_getI C FX_10 28 oS_0.1 oS_0.2 ff_10_28.1 ff_10_28.2 fl_X12_394 dX12_blockOf_260 ?_
  refine jr_iald C oS_34.1 oS_34.2.1 oS_34.2.2 dX12_blockOf_263 ?_
  refine jr_iadd C dX12_blockOf_264 ?_
  refine jr_bind (fun q21 e22 => ?_)
  refine jr_callVV C FX_10 km_X12_426 oS_0.1 oS_0.2 (rk hR rfl) (c_Mo_unset (gl G) (v2 + v5) (8 + (s.1 34 ((s.1 0 28) : Int32).toNatClampNeg)) s e22) rfl rfl rfl (Nat.le_of_ble_eq_true rfl) dX12_blockOf_265 ?_
  refine jr_iinc C 3 rfl ii_1 (lv' := [(5, .int (v5 + 1)), (0, .ref (ad G 0)), (1, .int v1), (2, .int v2)]) (ltL hL rfl) rfl dX12_blockOf_268 ?_
  refine jr_goto C (tgt := 242) dX12_blockOf_271 (by decide) ?_
  refine jr_lv [1, 2, 3, 0] rfl ?_
  exact jr_end (fun h => hb2 (v5 + 1) q21 h)
noncomputable def f_Mo_blockOf_L31 (v1 : Int32) (v2 : Int32) (s : St) : Option (Int32 ⊕ (Int32 ⊕ (Int32 × St))) :=
  if 3072 < ((f_Mo_up8 (v2 + v1)) + 8) then
  some (.inr (.inl v2))
  else
  lt ((101 * (s.1 0 28)) + 1) fun x5 =>
  (wh (fun a : (Int32 × Int32) => f_Mo_blockOf_L59_2 v1 v2 a.1 a.2 s) (1, x5)).bind (fun b11 =>
  if b11.1 = 0 then
  some (.inl (v2 + 8))
  else
  gd (s.1 0 28) 2 <|
  gd (s.1 0 28) 2 <|
  lt (uI s 34 ((s.1 0 28) : Int32).toNatClampNeg ((s.1 34 ((s.1 0 28) : Int32).toNatClampNeg) + 1)) fun s13 =>
  gd (s13.1 0 28) 2 <|
  lt ((101 * (s13.1 0 28)) + (s13.1 34 ((s13.1 0 28) : Int32).toNatClampNeg)) fun x14 =>
  gd x14 202 <|
  lt (uI s13 28 (x14 : Int32).toNatClampNeg v2) fun s15 =>
  gd x14 202 <|
  lt (uI s15 29 (x14 : Int32).toNatClampNeg v1) fun s16 =>
  gd x14 202 <|
  lt (uI s16 30 (x14 : Int32).toNatClampNeg 2) fun s17 =>
  gd x14 202 <|
  lt (uI s17 31 (x14 : Int32).toNatClampNeg (s17.1 0 69)) fun s18 =>
  gd x14 202 <|
  lt (uI s18 32 (x14 : Int32).toNatClampNeg (-1)) fun s19 =>
  (wh (fun a : (Int32 × St) => f_Mo_blockOf_L242_2 v1 v2 a.1 a.2) (0, s19)).bind (fun b23 =>
  gd (b23.2.1 0 28) 2 <|
  some (.inr (.inr ((b23.2.1 34 ((b23.2.1 0 28) : Int32).toNatClampNeg), b23.2)))))
set_option maxHeartbeats 4000000 in
set_option maxRecDepth 100000 in
theorem t_Mo_blockOf_L31 (G : GG) (hR : gR G = rmx 2 43) (hL : gL G = 6) (C : Cx SM G cX12_blockOf RX12) {Acc : (Int32 ⊕ (Int32 ⊕ (Int32 × St))) → Prop}  (v1 : Int32) (v2 : Int32) (s : St) (hb1 : ∀ (a2 : Int32), Acc (.inl a2) → KK SM G 31 [(0, .ref (ad G 0)), (1, .int v1), (2, .int a2)] [] s) (hx1 : ∀ (a2 : Int32), Acc (.inr (.inl a2)) → KK SM G 290 [(0, .ref (ad G 0)), (1, .int v1), (2, .int a2)] [] s) (hr : ∀ v : (Int32 × St), Acc (.inr (.inr v)) → RtI SM G cX12_blockOf v.1 v.2) : JJ SM G Acc (f_Mo_blockOf_L31 v1 v2 s) 31 [(0, .ref (ad G 0)), (1, .int v1), (2, .int v2)] [] s := by
  unfold f_Mo_blockOf_L31
  refine jr_iload_n C 2 rfl rfl dX12_blockOf_31 ?_
  refine jr_iload_n C 1 rfl rfl dX12_blockOf_32 ?_
  refine jr_iadd C dX12_blockOf_33 ?_
  refine jr_callSI C km_X12_477 (rk hR rfl) (c_Mo_up8 (gl G) (v2 + v1) s) rfl rfl rfl (Nat.le_of_ble_eq_true rfl) dX12_blockOf_34 ?_
  refine jr_bipush C bp_8 dX12_blockOf_37 ?_
  refine jr_iadd C dX12_blockOf_39 ?_
  refine jr_sipush C sp_3072 dX12_blockOf_40 ?_
  refine jr_icmp_gt C (tgt := 290) dX12_blockOf_43 (by decide) (fun h4 => ?_) (fun h4 => ?_)
  · refine jo_pos h4 ?_
    exact jr_end (fun h => hx1 v2 h)
  refine jo_neg h4 ?_
  refine jr_iconst C ic_1 dX12_blockOf_46 ?_
  refine jr_istore_n C (lv' := [(3, .int 1), (0, .ref (ad G 0)), (1, .int v1), (2, .int v2)]) (ltL hL rfl) rfl rfl dX12_blockOf_47 ?_
  refine jr_bipush C bp_101 dX12_blockOf_48 ?_
  refine jr_aload_n C 1 rfl rfl dX12_blockOf_50 ?_
  refine jr_getI C FX_10 28 oS_0.1 oS_0.2 ff_10_28.1 ff_10_28.2 fl_X12_394 dX12_blockOf_51 ?_
  refine jr_imul C dX12_blockOf_54 ?_
  refine jr_iconst C ic_1 dX12_blockOf_55 ?_
  refine jr_iadd C dX12_blockOf_56 ?_
  refine jr_ltI (fun x5 => ?_)
  refine jr_istore C (lv' := [(4, .int x5), (3, .int 1), (0, .ref (ad G 0)), (1, .int v1), (2, .int v2)]) (ltL hL rfl) rfl dX12_blockOf_57 ?_
  refine jr_lv [2, 3, 4, 1, 0] rfl ?_
  refine jr_loopB (pc := 59) (pcx := 157) (f := fun a : (Int32 × Int32) => f_Mo_blockOf_L59_2 v1 v2 a.1 a.2 s) (fun a : (Int32 × Int32) => [(0, .ref (ad G 0)), (1, .int v1), (2, .int v2), (3, .int (a.1)), (4, .int (a.2))]) (fun a : (Int32 × Int32) => s) (1, x5) (fun a => t_Mo_blockOf_L59_2 G hR hL C  v1 v2 a.1 a.2 s (fun _ _ h => h) (fun _ _ h => h)) (fun b11 => ?_)
  refine jr_iload_n C 3 rfl rfl dX12_blockOf_157 ?_
  refine jr_if_ne C (tgt := 164) dX12_blockOf_158 (by decide) (fun h12 => ?_) (fun h12 => ?_)
  · refine jo_neg h12 ?_
    refine jr_aload_n C 0 rfl rfl dX12_blockOf_164 ?_
    refine jr_getR C FX_10 51 oS_0.1 oS_0.2 ff_10_51.1 ff_10_51.2 rfl fl_X12_118 dX12_blockOf_165 ?_
    refine jr_aload_n C 0 rfl rfl dX12_blockOf_168 ?_
    refine jr_getI C FX_10 28 oS_0.1 oS_0.2 ff_10_28.1 ff_10_28.2 fl_X12_394 dX12_blockOf_169 ?_
    refine jr_dup2 C rfl rfl dX12_blockOf_172 ?_
    refine jr_iald C oS_34.1 oS_34.2.1 oS_34.2.2 dX12_blockOf_173 ?_
    refine jr_iconst C ic_1 dX12_blockOf_174 ?_
    refine jr_iadd C dX12_blockOf_175 ?_
    refine jr_iast C oS_34.1 oS_34.2.1 oS_34.2.2 dX12_blockOf_176 (jr_ltS fun s13 => ?_)
    refine jr_bipush C bp_101 dX12_blockOf_177 ?_
    refine jr_aload_n C 0 rfl rfl dX12_blockOf_179 ?_
    refine jr_getI C FX_10 28 oS_0.1 oS_0.2 ff_10_28.1 ff_10_28.2 fl_X12_394 dX12_blockOf_180 ?_
    refine jr_imul C dX12_blockOf_183 ?_
    refine jr_aload_n C 0 rfl rfl dX12_blockOf_184 ?_
    refine jr_getR C FX_10 51 oS_0.1 oS_0.2 ff_10_51.1 ff_10_51.2 rfl fl_X12_118 dX12_blockOf_185 ?_
    refine jr_aload_n C 0 rfl rfl dX12_blockOf_188 ?_
    refine jr_getI C FX_10 28 oS_0.1 oS_0.2 ff_10_28.1 ff_10_28.2 fl_X12_394 dX12_blockOf_189 ?_
    refine jr_iald C oS_34.1 oS_34.2.1 oS_34.2.2 dX12_blockOf_192 ?_
    refine jr_iadd C dX12_blockOf_193 ?_
    refine jr_ltI (fun x14 => ?_)
    refine jr_istore C (lv' := [(4, .int x14), (0, .ref (ad G 0)), (1, .int v1), (2, .int v2), (3, .int (b11.1))]) (ltL hL rfl) rfl dX12_blockOf_194 ?_
    refine jr_aload_n C 1 rfl rfl dX12_blockOf_196 ?_
    refine jr_getR C FX_10 45 oS_0.1 oS_0.2 ff_10_45.1 ff_10_45.2 rfl fl_X12_100 dX12_blockOf_197 ?_
    refine jr_iload C 0 rfl dX12_blockOf_200 ?_
    refine jr_iload_n C 3 rfl rfl dX12_blockOf_202 ?_
    refine jr_iast C oS_28.1 oS_28.2.1 oS_28.2.2 dX12_blockOf_203 (jr_ltS fun s15 => ?_)
    refine jr_aload_n C 1 rfl rfl dX12_blockOf_204 ?_
    refine jr_getR C FX_10 46 oS_0.1 oS_0.2 ff_10_46.1 ff_10_46.2 rfl fl_X12_103 dX12_blockOf_205 ?_
    refine jr_iload C 0 rfl dX12_blockOf_208 ?_
    refine jr_iload_n C 2 rfl rfl dX12_blockOf_210 ?_
    refine jr_iast C oS_29.1 oS_29.2.1 oS_29.2.2 dX12_blockOf_211 (jr_ltS fun s16 => ?_)
    refine jr_aload_n C 1 rfl rfl dX12_blockOf_212 ?_
    refine jr_getR C FX_10 47 oS_0.1 oS_0.2 ff_10_47.1 ff_10_47.2 rfl fl_X12_106 dX12_blockOf_213 ?_
    refine jr_iload C 0 rfl dX12_blockOf_216 ?_
    refine jr_iconst C ic_2 dX12_blockOf_218 ?_
    refine jr_iast C oS_30.1 oS_30.2.1 oS_30.2.2 dX12_blockOf_219 (jr_ltS fun s17 => ?_)
    refine jr_aload_n C 1 rfl rfl dX12_blockOf_220 ?_
    refine jr_getR C FX_10 48 oS_0.1 oS_0.2 ff_10_48.1 ff_10_48.2 rfl fl_X12_109 dX12_blockOf_221 ?_
    refine jr_iload C 0 rfl dX12_blockOf_224 ?_
    refine jr_aload_n C 1 rfl rfl dX12_blockOf_226 ?_
    refine jr_getI C FX_10 69 oS_0.1 oS_0.2 ff_10_69.1 ff_10_69.2 fl_X12_420 dX12_blockOf_227 ?_
    refine jr_iast C oS_31.1 oS_31.2.1 oS_31.2.2 dX12_blockOf_230 (jr_ltS fun s18 => ?_)
    refine jr_aload_n C 1 rfl rfl dX12_blockOf_231 ?_
    refine jr_getR C FX_10 49 oS_0.1 oS_0.2 ff_10_49.1 ff_10_49.2 rfl fl_X12_112 dX12_blockOf_232 ?_
    refine jr_iload C 0 rfl dX12_blockOf_235 ?_
    refine jr_iconst C ic_m1 dX12_blockOf_237 ?_
    refine jr_iast C oS_32.1 oS_32.2.1 oS_32.2.2 dX12_blockOf_238 (jr_ltS fun s19 => ?_)
    refine jr_iconst C ic_0 dX12_blockOf_239 ?_
    refine jr_istore C (lv' := [(5, .int 0), (4, .int x14), (0, .ref (ad G 0)), (1, .int v1), (2, .int v2), (3, .int (b11.1))]) (ltL hL rfl) rfl dX12_blockOf_240 ?_
    refine jr_lv [2, 3, 4, 0] rfl ?_
    refine jr_loopB (pc := 242) (pcx := 274) (f := fun a : (Int32 × St) => f_Mo_blockOf_L242_2 v1 v2 a.1 a.2) (fun a : (Int32 × St) => [(0, .ref (ad G 0)), (1, .int v1), (2, .int v2), (5, .int (a.1))]) (fun a : (Int32 × St) => a.2) (0, s19) (fun a => t_Mo_blockOf_L242_2 G hR hL C  v1 v2 a.1 a.2 (fun _ _ h => h) (fun _ _ h => h)) (fun b23 => ?_)
    refine jr_aload_n C 0 rfl rfl dX12_blockOf_274 ?_
    refine jr_getR C FX_10 51 oS_0.1 oS_0.2 ff_10_51.1 ff_10_51.2 rfl fl_X12_118 dX12_blockOf_275 ?_
    refine jr_aload_n C 0 rfl rfl dX12_blockOf_278 ?_
    refine jr_getI C FX_10 28 oS_0.1 oS_0.2 ff_10_28.1 ff_10_28.2 fl_X12_394 dX12_blockOf_279 ?_
    refine jr_iald C oS_34.1 oS_34.2.1 oS_34.2.2 dX12_blockOf_282 ?_
    exact jr_end (fun h => hr ((b23.2.1 34 ((b23.2.1 0 28) : Int32).toNatClampNeg), b23.2) h _ _ dX12_blockOf_283)
  refine jo_pos h12 ?_
  refine jr_goto C (tgt := 284) dX12_blockOf_161 (by decide) ?_
  refine jr_iinc C 2 rfl ii_8 (lv' := [(2, .int (v2 + 8)), (0, .ref (ad G 0)), (1, .int v1), (3, .int (b11.1)), (4, .int (b11.2))]) (ltL hL rfl) rfl dX12_blockOf_284 ?_
  refine jr_goto C (tgt := 31) dX12_blockOf_287 (by decide) ?_
  refine jr_lv [1, 2, 0] rfl ?_
  exact jr_end (fun h => hb1 (v2 + 8) h)
noncomputable def f_Mo_blockOf (v1 : Int32) (s : St) : Option (Int32 × St) :=
  if v1 < 0 then
  some (0, s)
  else
  if 512 < v1 then
  some (0, s)
  else
  gd (s.1 0 28) 2 <|
  if (s.1 34 ((s.1 0 28) : Int32).toNatClampNeg) = 100 then
  some (0, s)
  else
  (wh (fun a : Int32 => f_Mo_blockOf_L31 v1 a s) 1032).bind (Sum.elim (fun b24 =>
  some (0, s)) some)
set_option maxHeartbeats 4000000 in
set_option maxRecDepth 100000 in
theorem t_Mo_blockOf (G : GG) (hR : gR G = rmx 2 43) (hL : gL G = 6) (C : Cx SM G cX12_blockOf RX12) {Acc : (Int32 × St) → Prop}  (v1 : Int32) (s : St) (hr : ∀ v : (Int32 × St), Acc v → RtI SM G cX12_blockOf v.1 v.2) : JJ SM G Acc (f_Mo_blockOf v1 s) 0 [(0, .ref (ad G 0)), (1, .int v1)] [] s := by
  unfold f_Mo_blockOf
  refine jr_iload_n C 1 rfl rfl dX12_blockOf_0 ?_
  refine jr_if_lt C (tgt := 25) dX12_blockOf_1 (by decide) (fun h1 => ?_) (fun h1 => ?_)
  · refine jo_pos h1 ?_
    refine jr_iconst C ic_0 dX12_blockOf_25 ?_
    exact jr_end (fun h => hr (0, s) h _ _ dX12_blockOf_26)
  refine jo_neg h1 ?_
  refine jr_iload_n C 1 rfl rfl dX12_blockOf_4 ?_
  refine jr_sipush C sp_512 dX12_blockOf_5 ?_
  refine jr_icmp_gt C (tgt := 25) dX12_blockOf_8 (by decide) (fun h2 => ?_) (fun h2 => ?_)
  · refine jo_pos h2 ?_
    refine jr_iconst C ic_0 dX12_blockOf_25 ?_
    exact jr_end (fun h => hr (0, s) h _ _ dX12_blockOf_26)
  refine jo_neg h2 ?_
  refine jr_aload_n C 0 rfl rfl dX12_blockOf_11 ?_
  refine jr_getR C FX_10 51 oS_0.1 oS_0.2 ff_10_51.1 ff_10_51.2 rfl fl_X12_118 dX12_blockOf_12 ?_
  refine jr_aload_n C 0 rfl rfl dX12_blockOf_15 ?_
  refine jr_getI C FX_10 28 oS_0.1 oS_0.2 ff_10_28.1 ff_10_28.2 fl_X12_394 dX12_blockOf_16 ?_
  refine jr_iald C oS_34.1 oS_34.2.1 oS_34.2.2 dX12_blockOf_19 ?_
  refine jr_bipush C bp_100 dX12_blockOf_20 ?_
  refine jr_icmp_ne C (tgt := 27) dX12_blockOf_22 (by decide) (fun h3 => ?_) (fun h3 => ?_)
  · refine jo_neg h3 ?_
    refine jr_sipush C sp_1032 dX12_blockOf_27 ?_
    refine jr_istore_n C (lv' := [(2, .int 1032), (0, .ref (ad G 0)), (1, .int v1)]) (ltL hL rfl) rfl rfl dX12_blockOf_30 ?_
    refine jr_lv [1, 2, 0] rfl ?_
    refine jr_loopE (pc := 31) (pcx := 290) (f := fun a : Int32 => f_Mo_blockOf_L31 v1 a s) (fun a : Int32 => [(0, .ref (ad G 0)), (1, .int v1), (2, .int a)]) (fun a : Int32 => s) 1032 (fun a => t_Mo_blockOf_L31 G hR hL C  v1 a s (fun _ h => h) (fun _ h => h) hr) (fun b24 => ?_)
    refine jr_iconst C ic_0 dX12_blockOf_290 ?_
    exact jr_end (fun h => hr (0, s) h _ _ dX12_blockOf_291)
  refine jo_pos h3 ?_
  refine jr_iconst C ic_0 dX12_blockOf_25 ?_
  exact jr_end (fun h => hr (0, s) h _ _ dX12_blockOf_26)
set_option maxRecDepth 100000 in
theorem c_Mo_blockOf (l : Launch)  (v1 : Int32) (s : St) {q : (Int32 × St)} (h : f_Mo_blockOf v1 s = some q) : CT SM l yX12_blockOf cX12_blockOf 6 (some .int) 2 43 (fun a => [.ref (a 0), .int v1]) s q.2 (fun _ => some (.int q.1)) :=
  ct_I okX_M (by decide) (fun _ => Nat.le_of_ble_eq_true rfl) (fun G hl hR hL C hr => t_Mo_blockOf G hR hL C (Acc := fun v => v = q)  v1 s (fun v hv => by rw [hv]; exact hr) ⟨_, h, rfl⟩)
noncomputable def f_Mo_newBlock_J168 (w0 : Int32) (w1 : Int32) (s : St) : Option St :=
  (f_Mo_give w1 w0 0 0 s).bind fun q12 =>
  some q12
set_option maxHeartbeats 4000000 in
set_option maxRecDepth 100000 in
theorem t_Mo_newBlock_J168 (G : GG) (hR : gR G = rmx 3 68) (hL : gL G = 8) (C : Cx SM G cX12_newBlock RX12) {Acc : St → Prop}  (w0 : Int32) (w1 : Int32) (s : St) (hr : ∀ v : St, Acc v → RtV SM G cX12_newBlock v) : JJ SM G Acc (f_Mo_newBlock_J168 w0 w1 s) 168 [] [.int w0, .int w1, .ref (ad G 0)] s := by
  unfold f_Mo_newBlock_J168
  refine jr_iconst C ic_0 dX12_newBlock_168 ?_
  refine jr_iconst C ic_0 dX12_newBlock_169 ?_
  refine jr_bind (fun q12 e13 => ?_)
  refine jr_callVV C FX_10 km_X12_473 oS_0.1 oS_0.2 (rk hR rfl) (c_Mo_give (gl G) w1 w0 0 0 s e13) rfl rfl rfl (Nat.le_of_ble_eq_true rfl) dX12_newBlock_170 ?_
  exact jr_end (fun h => hr q12 h _ _ dX12_newBlock_173)
noncomputable def f_Mo_newBlock_J137 (v1 : Int32) (v5 : Int32) (s : St) : Option St :=
  gd v1 1200 <|
  if v5 ≤ 0 then
  f_Mo_newBlock_J168 0 (s.1 5 (v1 : Int32).toNatClampNeg) s
  else
  gd ((101 * (s.1 0 28)) + v5) 202 <|
  f_Mo_newBlock_J168 (s.1 28 (((101 * (s.1 0 28)) + v5) : Int32).toNatClampNeg) (s.1 5 (v1 : Int32).toNatClampNeg) s
set_option maxHeartbeats 4000000 in
set_option maxRecDepth 100000 in
theorem t_Mo_newBlock_J137 (G : GG) (hR : gR G = rmx 3 68) (hL : gL G = 8) (C : Cx SM G cX12_newBlock RX12) {Acc : St → Prop}  (v1 : Int32) (v5 : Int32) (s : St) (hr : ∀ v : St, Acc v → RtV SM G cX12_newBlock v) : JJ SM G Acc (f_Mo_newBlock_J137 v1 v5 s) 137 [(0, .ref (ad G 0)), (1, .int v1), (5, .int v5)] [] s := by
  unfold f_Mo_newBlock_J137
  refine jr_aload_n C 0 rfl rfl dX12_newBlock_137 ?_
  refine jr_aload_n C 0 rfl rfl dX12_newBlock_138 ?_
  refine jr_getR C FX_10 6 oS_0.1 oS_0.2 ff_10_6.1 ff_10_6.2 rfl fl_X12_24 dX12_newBlock_139 ?_
  refine jr_iload_n C 1 rfl rfl dX12_newBlock_142 ?_
  refine jr_iald C oS_5.1 oS_5.2.1 oS_5.2.2 dX12_newBlock_143 ?_
  refine jr_iload C 2 rfl dX12_newBlock_144 ?_
  refine jr_if_le C (tgt := 167) dX12_newBlock_146 (by decide) (fun h11 => ?_) (fun h11 => ?_)
  · refine jo_pos h11 ?_
    refine jr_iconst C ic_0 dX12_newBlock_167 ?_
    refine jr_lv [] rfl ?_
    exact t_Mo_newBlock_J168 G hR hL C  0 (s.1 5 (v1 : Int32).toNatClampNeg) s hr
  refine jo_neg h11 ?_
  refine jr_aload_n C 0 rfl rfl dX12_newBlock_149 ?_
  refine jr_getR C FX_10 45 oS_0.1 oS_0.2 ff_10_45.1 ff_10_45.2 rfl fl_X12_100 dX12_newBlock_150 ?_
  refine jr_bipush C bp_101 dX12_newBlock_153 ?_
  refine jr_aload_n C 0 rfl rfl dX12_newBlock_155 ?_
  refine jr_getI C FX_10 28 oS_0.1 oS_0.2 ff_10_28.1 ff_10_28.2 fl_X12_394 dX12_newBlock_156 ?_
  refine jr_imul C dX12_newBlock_159 ?_
  refine jr_iload C 2 rfl dX12_newBlock_160 ?_
  refine jr_iadd C dX12_newBlock_162 ?_
  refine jr_iald C oS_28.1 oS_28.2.1 oS_28.2.2 dX12_newBlock_163 ?_
  refine jr_goto C (tgt := 168) dX12_newBlock_164 (by decide) ?_
  refine jr_lv [] rfl ?_
  exact t_Mo_newBlock_J168 G hR hL C  (s.1 28 (((101 * (s.1 0 28)) + v5) : Int32).toNatClampNeg) (s.1 5 (v1 : Int32).toNatClampNeg) s hr
noncomputable def f_Mo_newBlock_L71 (v1 : Int32) (v4 : Int32) (v5 : Int32) (v6 : Int32) (s : St) : Option ((Int32 × St) ⊕ (Int32 × St)) :=
  if v4 ≤ v6 then
  some (.inr (v6, s))
  else
  gd ((101 * (s.1 0 28)) + v5) 202 <|
  lt (((4096 * (s.1 0 28)) + (s.1 28 (((101 * (s.1 0 28)) + v5) : Int32).toNatClampNeg)) + v6) fun x17 =>
  gd x17 8192 <|
  lt (uI s 16 (x17 : Int32).toNatClampNeg 0) fun s18 =>
  gd x17 8192 <|
  lt (uI s18 17 (x17 : Int32).toNatClampNeg 0) fun s19 =>
  gd x17 8192 <|
  lt (uI s19 18 (x17 : Int32).toNatClampNeg 0) fun s20 =>
  some (.inl ((v6 + 1), s20))
set_option maxHeartbeats 4000000 in
set_option maxRecDepth 100000 in
theorem t_Mo_newBlock_L71 (G : GG) (hR : gR G = rmx 3 68) (hL : gL G = 8) (C : Cx SM G cX12_newBlock RX12) {Acc : ((Int32 × St) ⊕ (Int32 × St)) → Prop}  (v1 : Int32) (v4 : Int32) (v5 : Int32) (v6 : Int32) (s : St) (hb1 : ∀ (a6 : Int32) (t : St), Acc (.inl (a6, t)) → KK SM G 71 [(0, .ref (ad G 0)), (1, .int v1), (4, .int v4), (5, .int v5), (6, .int a6)] [] t) (hx1 : ∀ (a6 : Int32) (t : St), Acc (.inr (a6, t)) → KK SM G 137 [(0, .ref (ad G 0)), (1, .int v1), (4, .int v4), (5, .int v5), (6, .int a6)] [] t) : JJ SM G Acc (f_Mo_newBlock_L71 v1 v4 v5 v6 s) 71 [(0, .ref (ad G 0)), (1, .int v1), (4, .int v4), (5, .int v5), (6, .int v6)] [] s := by
  unfold f_Mo_newBlock_L71
  refine jr_iload C 4 rfl dX12_newBlock_71 ?_
  refine jr_iload C 2 rfl dX12_newBlock_73 ?_
  refine jr_icmp_ge C (tgt := 137) dX12_newBlock_75 (by decide) (fun h16 => ?_) (fun h16 => ?_)
  · refine jo_pos h16 ?_
    exact jr_end (fun h => hx1 v6 s h)
  refine jo_neg h16 ?_
  refine jr_sipush C sp_4096 dX12_newBlock_78 ?_
  refine jr_aload_n C 0 rfl rfl dX12_newBlock_81 ?_
  refine jr_getI C FX_10 28 oS_0.1 oS_0.2 ff_10_28.1 ff_10_28.2 fl_X12_394 dX12_newBlock_82 ?_
  refine jr_imul C dX12_newBlock_85 ?_
  refine jr_aload_n C 0 rfl rfl dX12_newBlock_86 ?_
  refine jr_getR C FX_10 45 oS_0.1 oS_0.2 ff_10_45.1 ff_10_45.2 rfl fl_X12_100 dX12_newBlock_87 ?_
  refine jr_bipush C bp_101 dX12_newBlock_90 ?_
  refine jr_aload_n C 0 rfl rfl dX12_newBlock_92 ?_
  refine jr_getI C FX_10 28 oS_0.1 oS_0.2 ff_10_28.1 ff_10_28.2 fl_X12_394 dX12_newBlock_93 ?_
  refine jr_imul C dX12_newBlock_96 ?_
  refine jr_iload C 3 rfl dX12_newBlock_97 ?_
  refine jr_iadd C dX12_newBlock_99 ?_
  refine jr_iald C oS_28.1 oS_28.2.1 oS_28.2.2 dX12_newBlock_100 ?_
  refine jr_iadd C dX12_newBlock_101 ?_
  refine jr_iload C 4 rfl dX12_newBlock_102 ?_
  refine jr_iadd C dX12_newBlock_104 ?_
  refine jr_ltI (fun x17 => ?_)
  refine jr_istore C (lv' := [(7, .int x17), (0, .ref (ad G 0)), (1, .int v1), (4, .int v4), (5, .int v5), (6, .int v6)]) (ltL hL rfl) rfl dX12_newBlock_105 ?_
  refine jr_aload_n C 1 rfl rfl dX12_newBlock_107 ?_
  refine jr_getR C FX_10 33 oS_0.1 oS_0.2 ff_10_33.1 ff_10_33.2 rfl fl_X12_64 dX12_newBlock_108 ?_
  refine jr_iload C 0 rfl dX12_newBlock_111 ?_
  refine jr_iconst C ic_0 dX12_newBlock_113 ?_
  refine jr_iast C oS_16.1 oS_16.2.1 oS_16.2.2 dX12_newBlock_114 (jr_ltS fun s18 => ?_)
  refine jr_aload_n C 1 rfl rfl dX12_newBlock_115 ?_
  refine jr_getR C FX_10 34 oS_0.1 oS_0.2 ff_10_34.1 ff_10_34.2 rfl fl_X12_67 dX12_newBlock_116 ?_
  refine jr_iload C 0 rfl dX12_newBlock_119 ?_
  refine jr_iconst C ic_0 dX12_newBlock_121 ?_
  refine jr_iast C oS_17.1 oS_17.2.1 oS_17.2.2 dX12_newBlock_122 (jr_ltS fun s19 => ?_)
  refine jr_aload_n C 1 rfl rfl dX12_newBlock_123 ?_
  refine jr_getR C FX_10 35 oS_0.1 oS_0.2 ff_10_35.1 ff_10_35.2 rfl fl_X12_70 dX12_newBlock_124 ?_
  refine jr_iload C 0 rfl dX12_newBlock_127 ?_
  refine jr_iconst C ic_0 dX12_newBlock_129 ?_
  refine jr_iast C oS_18.1 oS_18.2.1 oS_18.2.2 dX12_newBlock_130 (jr_ltS fun s20 => ?_)
  refine jr_iinc C 5 rfl ii_1 (lv' := [(6, .int (v6 + 1)), (7, .int x17), (0, .ref (ad G 0)), (1, .int v1), (4, .int v4), (5, .int v5)]) (ltL hL rfl) rfl dX12_newBlock_131 ?_
  refine jr_goto C (tgt := 71) dX12_newBlock_134 (by decide) ?_
  refine jr_lv [2, 3, 4, 5, 0] rfl ?_
  exact jr_end (fun h => hb1 (v6 + 1) s20 h)
noncomputable def f_Mo_newBlock_J22 (v1 : Int32) (v2 : Int32) (s : St) : Option St :=
  gd (s.1 0 28) 2 <|
  lt (s.1 24 ((s.1 0 28) : Int32).toNatClampNeg) fun x4 =>
  (f_Mo_value (v1 + 1) s).bind fun q5 =>
  (f_Mo_blockOf q5 s).bind fun q7 =>
  lt (q7.1) fun x9 =>
  if x9 ≤ 0 then
  f_Mo_newBlock_J137 v1 x9 (q7.2)
  else
  if v2 = 0 then
  f_Mo_newBlock_J137 v1 x9 (q7.2)
  else
  gd (q7.2.1 0 28) 2 <|
  lt (uI (q7.2) 24 ((q7.2.1 0 28) : Int32).toNatClampNeg x4) fun s15 =>
  (wh (fun a : (Int32 × St) => f_Mo_newBlock_L71 v1 q5 x9 a.1 a.2) (0, s15)).bind (fun b21 =>
  f_Mo_newBlock_J137 v1 x9 (b21.2))
set_option maxHeartbeats 4000000 in
set_option maxRecDepth 100000 in
theorem t_Mo_newBlock_J22 (G : GG) (hR : gR G = rmx 3 68) (hL : gL G = 8) (C : Cx SM G cX12_newBlock RX12) {Acc : St → Prop}  (v1 : Int32) (v2 : Int32) (s : St) (hr : ∀ v : St, Acc v → RtV SM G cX12_newBlock v) : JJ SM G Acc (f_Mo_newBlock_J22 v1 v2 s) 22 [(0, .ref (ad G 0)), (1, .int v1), (2, .int v2)] [] s := by
  unfold f_Mo_newBlock_J22
  refine jr_aload_n C 0 rfl rfl dX12_newBlock_22 ?_
  refine jr_getR C FX_10 41 oS_0.1 oS_0.2 ff_10_41.1 ff_10_41.2 rfl fl_X12_88 dX12_newBlock_23 ?_
  refine jr_aload_n C 0 rfl rfl dX12_newBlock_26 ?_
  refine jr_getI C FX_10 28 oS_0.1 oS_0.2 ff_10_28.1 ff_10_28.2 fl_X12_394 dX12_newBlock_27 ?_
  refine jr_iald C oS_24.1 oS_24.2.1 oS_24.2.2 dX12_newBlock_30 ?_
  refine jr_ltI (fun x4 => ?_)
  refine jr_istore_n C (lv' := [(3, .int x4), (0, .ref (ad G 0)), (1, .int v1), (2, .int v2)]) (ltL hL rfl) rfl rfl dX12_newBlock_31 ?_
  refine jr_aload_n C 1 rfl rfl dX12_newBlock_32 ?_
  refine jr_iload_n C 2 rfl rfl dX12_newBlock_33 ?_
  refine jr_iconst C ic_1 dX12_newBlock_34 ?_
  refine jr_iadd C dX12_newBlock_35 ?_
  refine jr_bind (fun q5 e6 => ?_)
  refine jr_callVI C FX_10 km_X12_451 oS_0.1 oS_0.2 (rk hR rfl) (c_Mo_value (gl G) (v1 + 1) s e6) rfl rfl rfl (Nat.le_of_ble_eq_true rfl) dX12_newBlock_36 ?_
  refine jr_istore C (lv' := [(4, .int q5), (3, .int x4), (0, .ref (ad G 0)), (1, .int v1), (2, .int v2)]) (ltL hL rfl) rfl dX12_newBlock_39 ?_
  refine jr_aload_n C 2 rfl rfl dX12_newBlock_41 ?_
  refine jr_iload C 0 rfl dX12_newBlock_42 ?_
  refine jr_bind (fun q7 e8 => ?_)
  refine jr_callVI C FX_10 km_X12_503 oS_0.1 oS_0.2 (rk hR rfl) (c_Mo_blockOf (gl G) q5 s e8) rfl rfl rfl (Nat.le_of_ble_eq_true rfl) dX12_newBlock_44 ?_
  refine jr_ltI (fun x9 => ?_)
  refine jr_istore C (lv' := [(5, .int x9), (4, .int q5), (3, .int x4), (0, .ref (ad G 0)), (1, .int v1), (2, .int v2)]) (ltL hL rfl) rfl dX12_newBlock_47 ?_
  refine jr_iload C 0 rfl dX12_newBlock_49 ?_
  refine jr_if_le C (tgt := 137) dX12_newBlock_51 (by decide) (fun h10 => ?_) (fun h10 => ?_)
  · refine jo_pos h10 ?_
    refine jr_lv [3, 4, 0] rfl ?_
    exact t_Mo_newBlock_J137 G hR hL C  v1 x9 (q7.2) hr
  refine jo_neg h10 ?_
  refine jr_iload_n C 5 rfl rfl dX12_newBlock_54 ?_
  refine jr_if_eq C (tgt := 137) dX12_newBlock_55 (by decide) (fun h14 => ?_) (fun h14 => ?_)
  · refine jo_pos h14 ?_
    refine jr_lv [3, 4, 0] rfl ?_
    exact t_Mo_newBlock_J137 G hR hL C  v1 x9 (q7.2) hr
  refine jo_neg h14 ?_
  refine jr_aload_n C 3 rfl rfl dX12_newBlock_58 ?_
  refine jr_getR C FX_10 41 oS_0.1 oS_0.2 ff_10_41.1 ff_10_41.2 rfl fl_X12_88 dX12_newBlock_59 ?_
  refine jr_aload_n C 3 rfl rfl dX12_newBlock_62 ?_
  refine jr_getI C FX_10 28 oS_0.1 oS_0.2 ff_10_28.1 ff_10_28.2 fl_X12_394 dX12_newBlock_63 ?_
  refine jr_iload_n C 2 rfl rfl dX12_newBlock_66 ?_
  refine jr_iast C oS_24.1 oS_24.2.1 oS_24.2.2 dX12_newBlock_67 (jr_ltS fun s15 => ?_)
  refine jr_iconst C ic_0 dX12_newBlock_68 ?_
  refine jr_istore C (lv' := [(6, .int 0), (5, .int x9), (4, .int q5), (3, .int x4), (0, .ref (ad G 0)), (1, .int v1), (2, .int v2)]) (ltL hL rfl) rfl dX12_newBlock_69 ?_
  refine jr_lv [4, 5, 2, 1, 0] rfl ?_
  refine jr_loopB (pc := 71) (pcx := 137) (f := fun a : (Int32 × St) => f_Mo_newBlock_L71 v1 q5 x9 a.1 a.2) (fun a : (Int32 × St) => [(0, .ref (ad G 0)), (1, .int v1), (4, .int q5), (5, .int x9), (6, .int (a.1))]) (fun a : (Int32 × St) => a.2) (0, s15) (fun a => t_Mo_newBlock_L71 G hR hL C  v1 q5 x9 a.1 a.2 (fun _ _ h => h) (fun _ _ h => h)) (fun b21 => ?_)
  refine jr_lv [0, 1, 3] rfl ?_
  exact t_Mo_newBlock_J137 G hR hL C  v1 x9 (b21.2) hr
noncomputable def f_Mo_newBlock (v1 : Int32) (v2 : Int32) (s : St) : Option St :=
  (f_Mo_shade (v1 + 1) s).bind fun q1 =>
  if q1 = 0 then
  f_Mo_newBlock_J22 v1 v2 s
  else
  (f_Mo_origin (v1 + 1) s).bind fun q22 =>
  (f_Mo_told 5 q22 s).bind fun q24 =>
  f_Mo_newBlock_J22 v1 v2 q24
set_option maxHeartbeats 4000000 in
set_option maxRecDepth 100000 in
theorem t_Mo_newBlock (G : GG) (hR : gR G = rmx 3 68) (hL : gL G = 8) (C : Cx SM G cX12_newBlock RX12) {Acc : St → Prop}  (v1 : Int32) (v2 : Int32) (s : St) (hr : ∀ v : St, Acc v → RtV SM G cX12_newBlock v) : JJ SM G Acc (f_Mo_newBlock v1 v2 s) 0 [(0, .ref (ad G 0)), (1, .int v1), (2, .int v2)] [] s := by
  unfold f_Mo_newBlock
  refine jr_aload_n C 0 rfl rfl dX12_newBlock_0 ?_
  refine jr_iload_n C 1 rfl rfl dX12_newBlock_1 ?_
  refine jr_iconst C ic_1 dX12_newBlock_2 ?_
  refine jr_iadd C dX12_newBlock_3 ?_
  refine jr_bind (fun q1 e2 => ?_)
  refine jr_callVI C FX_10 km_X12_454 oS_0.1 oS_0.2 (rk hR rfl) (c_Mo_shade (gl G) (v1 + 1) s e2) rfl rfl rfl (Nat.le_of_ble_eq_true rfl) dX12_newBlock_4 ?_
  refine jr_if_eq C (tgt := 22) dX12_newBlock_7 (by decide) (fun h3 => ?_) (fun h3 => ?_)
  · refine jo_pos h3 ?_
    exact t_Mo_newBlock_J22 G hR hL C  v1 v2 s hr
  refine jo_neg h3 ?_
  refine jr_aload_n C 0 rfl rfl dX12_newBlock_10 ?_
  refine jr_iconst C ic_5 dX12_newBlock_11 ?_
  refine jr_aload_n C 0 rfl rfl dX12_newBlock_12 ?_
  refine jr_iload_n C 1 rfl rfl dX12_newBlock_13 ?_
  refine jr_iconst C ic_1 dX12_newBlock_14 ?_
  refine jr_iadd C dX12_newBlock_15 ?_
  refine jr_bind (fun q22 e23 => ?_)
  refine jr_callVI C FX_10 km_X12_457 oS_0.1 oS_0.2 (rk hR rfl) (c_Mo_origin (gl G) (v1 + 1) s e23) rfl rfl rfl (Nat.le_of_ble_eq_true rfl) dX12_newBlock_16 ?_
  refine jr_bind (fun q24 e25 => ?_)
  refine jr_callVV C FX_10 km_X12_460 oS_0.1 oS_0.2 (rk hR rfl) (c_Mo_told (gl G) 5 q22 s e25) rfl rfl rfl (Nat.le_of_ble_eq_true rfl) dX12_newBlock_19 ?_
  exact t_Mo_newBlock_J22 G hR hL C  v1 v2 q24 hr
set_option maxRecDepth 100000 in
theorem c_Mo_newBlock (l : Launch)  (v1 : Int32) (v2 : Int32) (s : St) {q : St} (h : f_Mo_newBlock v1 v2 s = some q) : CT SM l yX12_newBlock cX12_newBlock 8 none 3 68 (fun a => [.ref (a 0), .int v1, .int v2]) s q (fun _ => none) :=
  ct_V okX_M (by decide) (fun _ => Nat.le_of_ble_eq_true rfl) (fun G hl hR hL C hr => t_Mo_newBlock G hR hL C (Acc := fun v => v = q)  v1 v2 s (fun v hv => by rw [hv]; exact hr) ⟨_, h, rfl⟩)
noncomputable def f_Mo_inUse_J53_1 (v1 : Int32) (v2 : Int32) (s : St) : Option (Int32 ⊕ (Int32 ⊕ Int32)) :=
  some (.inl (v2 + 1))
set_option maxHeartbeats 4000000 in
set_option maxRecDepth 100000 in
theorem t_Mo_inUse_J53_1 (G : GG) (hR : gR G = rmx 0 0) (hL : gL G = 3) (C : Cx SM G cX12_inUse RX12) {Acc : (Int32 ⊕ (Int32 ⊕ Int32)) → Prop}  (v1 : Int32) (v2 : Int32) (s : St) (hb1 : ∀ (a2 : Int32), Acc (.inl a2) → KK SM G 2 [(0, .ref (ad G 0)), (1, .int v1), (2, .int a2)] [] s) (hx1 : ∀ (a2 : Int32), Acc (.inr (.inl a2)) → KK SM G 59 [(0, .ref (ad G 0)), (1, .int v1), (2, .int a2)] [] s) (hr : ∀ v : Int32, Acc (.inr (.inr v)) → RtI SM G cX12_inUse v s) : JJ SM G Acc (f_Mo_inUse_J53_1 v1 v2 s) 53 [(0, .ref (ad G 0)), (1, .int v1), (2, .int v2)] [] s := by
  unfold f_Mo_inUse_J53_1
  refine jr_iinc C 2 rfl ii_1 (lv' := [(2, .int (v2 + 1)), (0, .ref (ad G 0)), (1, .int v1)]) (ltL hL rfl) rfl dX12_inUse_53 ?_
  refine jr_goto C (tgt := 2) dX12_inUse_56 (by decide) ?_
  refine jr_lv [1, 2, 0] rfl ?_
  exact jr_end (fun h => hb1 (v2 + 1) h)
noncomputable def f_Mo_inUse_L2 (v1 : Int32) (v2 : Int32) (s : St) : Option (Int32 ⊕ (Int32 ⊕ Int32)) :=
  gd (s.1 0 28) 2 <|
  if (s.1 34 ((s.1 0 28) : Int32).toNatClampNeg) < v2 then
  some (.inr (.inl v2))
  else
  gd ((101 * (s.1 0 28)) + v2) 202 <|
  if (s.1 30 (((101 * (s.1 0 28)) + v2) : Int32).toNatClampNeg) = 2 then
  (gd ((101 * (s.1 0 28)) + v2) 202 <|
  if (s.1 28 (((101 * (s.1 0 28)) + v2) : Int32).toNatClampNeg) = v1 then
  some (.inr (.inr v2))
  else
  f_Mo_inUse_J53_1 v1 v2 s)
  else
  f_Mo_inUse_J53_1 v1 v2 s
set_option maxHeartbeats 4000000 in
set_option maxRecDepth 100000 in
theorem t_Mo_inUse_L2 (G : GG) (hR : gR G = rmx 0 0) (hL : gL G = 3) (C : Cx SM G cX12_inUse RX12) {Acc : (Int32 ⊕ (Int32 ⊕ Int32)) → Prop}  (v1 : Int32) (v2 : Int32) (s : St) (hb1 : ∀ (a2 : Int32), Acc (.inl a2) → KK SM G 2 [(0, .ref (ad G 0)), (1, .int v1), (2, .int a2)] [] s) (hx1 : ∀ (a2 : Int32), Acc (.inr (.inl a2)) → KK SM G 59 [(0, .ref (ad G 0)), (1, .int v1), (2, .int a2)] [] s) (hr : ∀ v : Int32, Acc (.inr (.inr v)) → RtI SM G cX12_inUse v s) : JJ SM G Acc (f_Mo_inUse_L2 v1 v2 s) 2 [(0, .ref (ad G 0)), (1, .int v1), (2, .int v2)] [] s := by
  unfold f_Mo_inUse_L2
  refine jr_iload_n C 2 rfl rfl dX12_inUse_2 ?_
  refine jr_aload_n C 0 rfl rfl dX12_inUse_3 ?_
  refine jr_getR C FX_10 51 oS_0.1 oS_0.2 ff_10_51.1 ff_10_51.2 rfl fl_X12_118 dX12_inUse_4 ?_
  refine jr_aload_n C 0 rfl rfl dX12_inUse_7 ?_
  refine jr_getI C FX_10 28 oS_0.1 oS_0.2 ff_10_28.1 ff_10_28.2 fl_X12_394 dX12_inUse_8 ?_
  refine jr_iald C oS_34.1 oS_34.2.1 oS_34.2.2 dX12_inUse_11 ?_
  refine jr_icmp_gt C (tgt := 59) dX12_inUse_12 (by decide) (fun h1 => ?_) (fun h1 => ?_)
  · refine jo_pos h1 ?_
    exact jr_end (fun h => hx1 v2 h)
  refine jo_neg h1 ?_
  refine jr_aload_n C 0 rfl rfl dX12_inUse_15 ?_
  refine jr_getR C FX_10 47 oS_0.1 oS_0.2 ff_10_47.1 ff_10_47.2 rfl fl_X12_106 dX12_inUse_16 ?_
  refine jr_bipush C bp_101 dX12_inUse_19 ?_
  refine jr_aload_n C 0 rfl rfl dX12_inUse_21 ?_
  refine jr_getI C FX_10 28 oS_0.1 oS_0.2 ff_10_28.1 ff_10_28.2 fl_X12_394 dX12_inUse_22 ?_
  refine jr_imul C dX12_inUse_25 ?_
  refine jr_iload_n C 2 rfl rfl dX12_inUse_26 ?_
  refine jr_iadd C dX12_inUse_27 ?_
  refine jr_iald C oS_30.1 oS_30.2.1 oS_30.2.2 dX12_inUse_28 ?_
  refine jr_iconst C ic_2 dX12_inUse_29 ?_
  refine jr_icmp_ne C (tgt := 53) dX12_inUse_30 (by decide) (fun h2 => ?_) (fun h2 => ?_)
  · refine jo_neg h2 ?_
    exact t_Mo_inUse_J53_1 G hR hL C  v1 v2 s hb1 hx1 hr
  refine jo_pos h2 ?_
  refine jr_aload_n C 0 rfl rfl dX12_inUse_33 ?_
  refine jr_getR C FX_10 45 oS_0.1 oS_0.2 ff_10_45.1 ff_10_45.2 rfl fl_X12_100 dX12_inUse_34 ?_
  refine jr_bipush C bp_101 dX12_inUse_37 ?_
  refine jr_aload_n C 0 rfl rfl dX12_inUse_39 ?_
  refine jr_getI C FX_10 28 oS_0.1 oS_0.2 ff_10_28.1 ff_10_28.2 fl_X12_394 dX12_inUse_40 ?_
  refine jr_imul C dX12_inUse_43 ?_
  refine jr_iload_n C 2 rfl rfl dX12_inUse_44 ?_
  refine jr_iadd C dX12_inUse_45 ?_
  refine jr_iald C oS_28.1 oS_28.2.1 oS_28.2.2 dX12_inUse_46 ?_
  refine jr_iload_n C 1 rfl rfl dX12_inUse_47 ?_
  refine jr_icmp_ne C (tgt := 53) dX12_inUse_48 (by decide) (fun h3 => ?_) (fun h3 => ?_)
  · refine jo_neg h3 ?_
    exact t_Mo_inUse_J53_1 G hR hL C  v1 v2 s hb1 hx1 hr
  refine jo_pos h3 ?_
  refine jr_iload_n C 2 rfl rfl dX12_inUse_51 ?_
  exact jr_end (fun h => hr v2 h _ _ dX12_inUse_52)
noncomputable def f_Mo_inUse (v1 : Int32) (s : St) : Option Int32 :=
  (wh (fun a : Int32 => f_Mo_inUse_L2 v1 a s) 1).bind (Sum.elim (fun b4 =>
  some 0) some)
set_option maxHeartbeats 4000000 in
set_option maxRecDepth 100000 in
theorem t_Mo_inUse (G : GG) (hR : gR G = rmx 0 0) (hL : gL G = 3) (C : Cx SM G cX12_inUse RX12) {Acc : Int32 → Prop}  (v1 : Int32) (s : St) (hr : ∀ v : Int32, Acc v → RtI SM G cX12_inUse v s) : JJ SM G Acc (f_Mo_inUse v1 s) 0 [(0, .ref (ad G 0)), (1, .int v1)] [] s := by
  unfold f_Mo_inUse
  refine jr_iconst C ic_1 dX12_inUse_0 ?_
  refine jr_istore_n C (lv' := [(2, .int 1), (0, .ref (ad G 0)), (1, .int v1)]) (ltL hL rfl) rfl rfl dX12_inUse_1 ?_
  refine jr_lv [1, 2, 0] rfl ?_
  refine jr_loopE (pc := 2) (pcx := 59) (f := fun a : Int32 => f_Mo_inUse_L2 v1 a s) (fun a : Int32 => [(0, .ref (ad G 0)), (1, .int v1), (2, .int a)]) (fun a : Int32 => s) 1 (fun a => t_Mo_inUse_L2 G hR hL C  v1 a s (fun _ h => h) (fun _ h => h) hr) (fun b4 => ?_)
  refine jr_iconst C ic_0 dX12_inUse_59 ?_
  exact jr_end (fun h => hr 0 h _ _ dX12_inUse_60)
set_option maxRecDepth 100000 in
theorem c_Mo_inUse (l : Launch)  (v1 : Int32) (s : St) {q : Int32} (h : f_Mo_inUse v1 s = some q) : CT SM l yX12_inUse cX12_inUse 3 (some .int) 0 0 (fun a => [.ref (a 0), .int v1]) s s (fun _ => some (.int q)) :=
  ct_I okX_M (by decide) (fun _ => Nat.le_of_ble_eq_true rfl) (fun G hl hR hL C hr => t_Mo_inUse G hR hL C (Acc := fun v => v = q)  v1 s (fun v hv => by rw [hv]; exact hr) ⟨_, h, rfl⟩)
noncomputable def f_Mo_freed_L12 (v2 : Int32) (v3 : Int32) (s : St) : Option ((Int32 × St) ⊕ (Int32 × St)) :=
  gd v2 202 <|
  if (s.1 29 (v2 : Int32).toNatClampNeg) ≤ v3 then
  some (.inr (v3, s))
  else
  gd v2 202 <|
  gd (((4096 * (s.1 0 28)) + (s.1 28 (v2 : Int32).toNatClampNeg)) + v3) 8192 <|
  lt (uI s 19 ((((4096 * (s.1 0 28)) + (s.1 28 (v2 : Int32).toNatClampNeg)) + v3) : Int32).toNatClampNeg (bN 0)) fun s3 =>
  some (.inl ((v3 + 1), s3))
set_option maxHeartbeats 4000000 in
set_option maxRecDepth 100000 in
theorem t_Mo_freed_L12 (G : GG) (hR : gR G = rmx 0 0) (hL : gL G = 8) (C : Cx SM G cX12_freed RX12) {Acc : ((Int32 × St) ⊕ (Int32 × St)) → Prop}  (v2 : Int32) (v3 : Int32) (s : St) (hb1 : ∀ (a3 : Int32) (t : St), Acc (.inl (a3, t)) → KK SM G 12 [(0, .ref (ad G 0)), (2, .int v2), (3, .int a3)] [] t) (hx1 : ∀ (a3 : Int32) (t : St), Acc (.inr (a3, t)) → KK SM G 51 [(0, .ref (ad G 0)), (2, .int v2), (3, .int a3)] [] t) : JJ SM G Acc (f_Mo_freed_L12 v2 v3 s) 12 [(0, .ref (ad G 0)), (2, .int v2), (3, .int v3)] [] s := by
  unfold f_Mo_freed_L12
  refine jr_iload_n C 2 rfl rfl dX12_freed_12 ?_
  refine jr_aload_n C 0 rfl rfl dX12_freed_13 ?_
  refine jr_getR C FX_10 46 oS_0.1 oS_0.2 ff_10_46.1 ff_10_46.2 rfl fl_X12_103 dX12_freed_14 ?_
  refine jr_iload_n C 1 rfl rfl dX12_freed_17 ?_
  refine jr_iald C oS_29.1 oS_29.2.1 oS_29.2.2 dX12_freed_18 ?_
  refine jr_icmp_ge C (tgt := 51) dX12_freed_19 (by decide) (fun h2 => ?_) (fun h2 => ?_)
  · refine jo_pos h2 ?_
    exact jr_end (fun h => hx1 v3 s h)
  refine jo_neg h2 ?_
  refine jr_aload_n C 0 rfl rfl dX12_freed_22 ?_
  refine jr_getR C FX_10 36 oS_0.1 oS_0.2 ff_10_36.1 ff_10_36.2 rfl fl_X12_73 dX12_freed_23 ?_
  refine jr_sipush C sp_4096 dX12_freed_26 ?_
  refine jr_aload_n C 0 rfl rfl dX12_freed_29 ?_
  refine jr_getI C FX_10 28 oS_0.1 oS_0.2 ff_10_28.1 ff_10_28.2 fl_X12_394 dX12_freed_30 ?_
  refine jr_imul C dX12_freed_33 ?_
  refine jr_aload_n C 0 rfl rfl dX12_freed_34 ?_
  refine jr_getR C FX_10 45 oS_0.1 oS_0.2 ff_10_45.1 ff_10_45.2 rfl fl_X12_100 dX12_freed_35 ?_
  refine jr_iload_n C 1 rfl rfl dX12_freed_38 ?_
  refine jr_iald C oS_28.1 oS_28.2.1 oS_28.2.2 dX12_freed_39 ?_
  refine jr_iadd C dX12_freed_40 ?_
  refine jr_iload_n C 2 rfl rfl dX12_freed_41 ?_
  refine jr_iadd C dX12_freed_42 ?_
  refine jr_iconst C ic_0 dX12_freed_43 ?_
  refine jr_zast C oS_19.1 oS_19.2.1 oS_19.2.2 dX12_freed_44 (jr_ltS fun s3 => ?_)
  refine jr_iinc C 2 rfl ii_1 (lv' := [(3, .int (v3 + 1)), (0, .ref (ad G 0)), (2, .int v2)]) (ltL hL rfl) rfl dX12_freed_45 ?_
  refine jr_goto C (tgt := 12) dX12_freed_48 (by decide) ?_
  refine jr_lv [1, 2, 0] rfl ?_
  exact jr_end (fun h => hb1 (v3 + 1) s3 h)
noncomputable def f_Mo_freed_J197_2 (v4 : Int32) (v5 : Int32) (v6 : Int32) (s : St) : Option ((Int32 × Int32 × Int32) ⊕ (Int32 × Int32 × Int32)) :=
  some (.inl (v4, v5, (v6 + 1)))
set_option maxHeartbeats 4000000 in
set_option maxRecDepth 100000 in
theorem t_Mo_freed_J197_2 (G : GG) (hR : gR G = rmx 0 0) (hL : gL G = 8) (C : Cx SM G cX12_freed RX12) {Acc : ((Int32 × Int32 × Int32) ⊕ (Int32 × Int32 × Int32)) → Prop}  (v4 : Int32) (v5 : Int32) (v6 : Int32) (s : St) (hb2 : ∀ (a4 : Int32) (a5 : Int32) (a6 : Int32), Acc (.inl (a4, a5, a6)) → KK SM G 111 [(0, .ref (ad G 0)), (4, .int a4), (5, .int a5), (6, .int a6)] [] s) (hx2 : ∀ (a4 : Int32) (a5 : Int32) (a6 : Int32), Acc (.inr (a4, a5, a6)) → KK SM G 203 [(0, .ref (ad G 0)), (4, .int a4), (5, .int a5), (6, .int a6)] [] s) : JJ SM G Acc (f_Mo_freed_J197_2 v4 v5 v6 s) 197 [(0, .ref (ad G 0)), (4, .int v4), (5, .int v5), (6, .int v6)] [] s := by
  unfold f_Mo_freed_J197_2
  refine jr_iinc C 3 rfl ii_1 (lv' := [(6, .int (v6 + 1)), (0, .ref (ad G 0)), (4, .int v4), (5, .int v5)]) (ltL hL rfl) rfl dX12_freed_197 ?_
  refine jr_goto C (tgt := 111) dX12_freed_200 (by decide) ?_
  refine jr_lv [1, 2, 3, 0] rfl ?_
  exact jr_end (fun h => hb2 v4 v5 (v6 + 1) h)
noncomputable def f_Mo_freed_J193_2 (v4 : Int32) (v6 : Int32) (s : St) : Option ((Int32 × Int32 × Int32) ⊕ (Int32 × Int32 × Int32)) :=
  f_Mo_freed_J197_2 v4 v6 v6 s
set_option maxHeartbeats 4000000 in
set_option maxRecDepth 100000 in
theorem t_Mo_freed_J193_2 (G : GG) (hR : gR G = rmx 0 0) (hL : gL G = 8) (C : Cx SM G cX12_freed RX12) {Acc : ((Int32 × Int32 × Int32) ⊕ (Int32 × Int32 × Int32)) → Prop}  (v4 : Int32) (v6 : Int32) (s : St) (hb2 : ∀ (a4 : Int32) (a5 : Int32) (a6 : Int32), Acc (.inl (a4, a5, a6)) → KK SM G 111 [(0, .ref (ad G 0)), (4, .int a4), (5, .int a5), (6, .int a6)] [] s) (hx2 : ∀ (a4 : Int32) (a5 : Int32) (a6 : Int32), Acc (.inr (a4, a5, a6)) → KK SM G 203 [(0, .ref (ad G 0)), (4, .int a4), (5, .int a5), (6, .int a6)] [] s) : JJ SM G Acc (f_Mo_freed_J193_2 v4 v6 s) 193 [(0, .ref (ad G 0)), (4, .int v4), (6, .int v6)] [] s := by
  unfold f_Mo_freed_J193_2
  refine jr_iload C 2 rfl dX12_freed_193 ?_
  refine jr_istore C (lv' := [(5, .int v6), (0, .ref (ad G 0)), (4, .int v4), (6, .int v6)]) (ltL hL rfl) rfl dX12_freed_195 ?_
  refine jr_lv [1, 2, 0, 3] rfl ?_
  exact t_Mo_freed_J197_2 G hR hL C  v4 v6 v6 s hb2 hx2
noncomputable def f_Mo_freed_L111_2 (v4 : Int32) (v5 : Int32) (v6 : Int32) (s : St) : Option ((Int32 × Int32 × Int32) ⊕ (Int32 × Int32 × Int32)) :=
  gd (s.1 0 28) 2 <|
  if (s.1 34 ((s.1 0 28) : Int32).toNatClampNeg) < v6 then
  some (.inr (v4, v5, v6))
  else
  lt ((101 * (s.1 0 28)) + v6) fun x11 =>
  gd x11 202 <|
  if (s.1 30 (x11 : Int32).toNatClampNeg) = 1 then
  (gd x11 202 <|
  lt (v4 + (s.1 29 (x11 : Int32).toNatClampNeg)) fun x13 =>
  if v5 = 0 then
  f_Mo_freed_J193_2 x13 v6 s
  else
  gd x11 202 <|
  gd ((101 * (s.1 0 28)) + v5) 202 <|
  if (s.1 33 (((101 * (s.1 0 28)) + v5) : Int32).toNatClampNeg) ≤ (s.1 33 (x11 : Int32).toNatClampNeg) then
  f_Mo_freed_J197_2 x13 v5 v6 s
  else
  f_Mo_freed_J193_2 x13 v6 s)
  else
  f_Mo_freed_J197_2 v4 v5 v6 s
set_option maxHeartbeats 4000000 in
set_option maxRecDepth 100000 in
theorem t_Mo_freed_L111_2 (G : GG) (hR : gR G = rmx 0 0) (hL : gL G = 8) (C : Cx SM G cX12_freed RX12) {Acc : ((Int32 × Int32 × Int32) ⊕ (Int32 × Int32 × Int32)) → Prop}  (v4 : Int32) (v5 : Int32) (v6 : Int32) (s : St) (hb2 : ∀ (a4 : Int32) (a5 : Int32) (a6 : Int32), Acc (.inl (a4, a5, a6)) → KK SM G 111 [(0, .ref (ad G 0)), (4, .int a4), (5, .int a5), (6, .int a6)] [] s) (hx2 : ∀ (a4 : Int32) (a5 : Int32) (a6 : Int32), Acc (.inr (a4, a5, a6)) → KK SM G 203 [(0, .ref (ad G 0)), (4, .int a4), (5, .int a5), (6, .int a6)] [] s) : JJ SM G Acc (f_Mo_freed_L111_2 v4 v5 v6 s) 111 [(0, .ref (ad G 0)), (4, .int v4), (5, .int v5), (6, .int v6)] [] s := by
  unfold f_Mo_freed_L111_2
  refine jr_iload C 3 rfl dX12_freed_111 ?_
  refine jr_aload_n C 0 rfl rfl dX12_freed_113 ?_
  refine jr_getR C FX_10 51 oS_0.1 oS_0.2 ff_10_51.1 ff_10_51.2 rfl fl_X12_118 dX12_freed_114 ?_
  refine jr_aload_n C 0 rfl rfl dX12_freed_117 ?_
  refine jr_getI C FX_10 28 oS_0.1 oS_0.2 ff_10_28.1 ff_10_28.2 fl_X12_394 dX12_freed_118 ?_
  refine jr_iald C oS_34.1 oS_34.2.1 oS_34.2.2 dX12_freed_121 ?_
  refine jr_icmp_gt C (tgt := 203) dX12_freed_122 (by decide) (fun h10 => ?_) (fun h10 => ?_)
  · refine jo_pos h10 ?_
    exact jr_end (fun h => hx2 v4 v5 v6 h)
  refine jo_neg h10 ?_
  refine jr_bipush C bp_101 dX12_freed_125 ?_
  refine jr_aload_n C 0 rfl rfl dX12_freed_127 ?_
  refine jr_getI C FX_10 28 oS_0.1 oS_0.2 ff_10_28.1 ff_10_28.2 fl_X12_394 dX12_freed_128 ?_
  refine jr_imul C dX12_freed_131 ?_
  refine jr_iload C 3 rfl dX12_freed_132 ?_
  refine jr_iadd C dX12_freed_134 ?_
  refine jr_ltI (fun x11 => ?_)
  refine jr_istore C (lv' := [(7, .int x11), (0, .ref (ad G 0)), (4, .int v4), (5, .int v5), (6, .int v6)]) (ltL hL rfl) rfl dX12_freed_135 ?_
  refine jr_aload_n C 1 rfl rfl dX12_freed_137 ?_
  refine jr_getR C FX_10 47 oS_0.1 oS_0.2 ff_10_47.1 ff_10_47.2 rfl fl_X12_106 dX12_freed_138 ?_
  refine jr_iload C 0 rfl dX12_freed_141 ?_
  refine jr_iald C oS_30.1 oS_30.2.1 oS_30.2.2 dX12_freed_143 ?_
  refine jr_iconst C ic_1 dX12_freed_144 ?_
  refine jr_icmp_eq C (tgt := 151) dX12_freed_145 (by decide) (fun h12 => ?_) (fun h12 => ?_)
  · refine jo_pos h12 ?_
    refine jr_iload C 2 rfl dX12_freed_151 ?_
    refine jr_aload_n C 1 rfl rfl dX12_freed_153 ?_
    refine jr_getR C FX_10 46 oS_0.1 oS_0.2 ff_10_46.1 ff_10_46.2 rfl fl_X12_103 dX12_freed_154 ?_
    refine jr_iload C 0 rfl dX12_freed_157 ?_
    refine jr_iald C oS_29.1 oS_29.2.1 oS_29.2.2 dX12_freed_159 ?_
    refine jr_iadd C dX12_freed_160 ?_
    refine jr_ltI (fun x13 => ?_)
    refine jr_istore C (lv' := [(4, .int x13), (7, .int x11), (0, .ref (ad G 0)), (5, .int v5), (6, .int v6)]) (ltL hL rfl) rfl dX12_freed_161 ?_
    refine jr_iload C 3 rfl dX12_freed_163 ?_
    refine jr_if_eq C (tgt := 193) dX12_freed_165 (by decide) (fun h14 => ?_) (fun h14 => ?_)
    · refine jo_pos h14 ?_
      refine jr_lv [2, 0, 4] rfl ?_
      exact t_Mo_freed_J193_2 G hR hL C  x13 v6 s hb2 hx2
    refine jo_neg h14 ?_
    refine jr_aload_n C 2 rfl rfl dX12_freed_168 ?_
    refine jr_getR C FX_10 50 oS_0.1 oS_0.2 ff_10_50.1 ff_10_50.2 rfl fl_X12_115 dX12_freed_169 ?_
    refine jr_iload C 1 rfl dX12_freed_172 ?_
    refine jr_iald C oS_33.1 oS_33.2.1 oS_33.2.2 dX12_freed_174 ?_
    refine jr_aload_n C 2 rfl rfl dX12_freed_175 ?_
    refine jr_getR C FX_10 50 oS_0.1 oS_0.2 ff_10_50.1 ff_10_50.2 rfl fl_X12_115 dX12_freed_176 ?_
    refine jr_bipush C bp_101 dX12_freed_179 ?_
    refine jr_aload_n C 2 rfl rfl dX12_freed_181 ?_
    refine jr_getI C FX_10 28 oS_0.1 oS_0.2 ff_10_28.1 ff_10_28.2 fl_X12_394 dX12_freed_182 ?_
    refine jr_imul C dX12_freed_185 ?_
    refine jr_iload C 3 rfl dX12_freed_186 ?_
    refine jr_iadd C dX12_freed_188 ?_
    refine jr_iald C oS_33.1 oS_33.2.1 oS_33.2.2 dX12_freed_189 ?_
    refine jr_icmp_ge C (tgt := 197) dX12_freed_190 (by decide) (fun h15 => ?_) (fun h15 => ?_)
    · refine jo_pos h15 ?_
      refine jr_lv [2, 0, 3, 4] rfl ?_
      exact t_Mo_freed_J197_2 G hR hL C  x13 v5 v6 s hb2 hx2
    refine jo_neg h15 ?_
    refine jr_lv [2, 0, 4] rfl ?_
    exact t_Mo_freed_J193_2 G hR hL C  x13 v6 s hb2 hx2
  refine jo_neg h12 ?_
  refine jr_goto C (tgt := 197) dX12_freed_148 (by decide) ?_
  refine jr_lv [1, 2, 3, 4] rfl ?_
  exact t_Mo_freed_J197_2 G hR hL C  v4 v5 v6 s hb2 hx2
noncomputable def f_Mo_freed_J237_1 (v3 : Int32) (s : St) : Option ((Int32 × St) ⊕ (Int32 × St)) :=
  some (.inl (v3, s))
set_option maxHeartbeats 4000000 in
set_option maxRecDepth 100000 in
theorem t_Mo_freed_J237_1 (G : GG) (hR : gR G = rmx 0 0) (hL : gL G = 8) (C : Cx SM G cX12_freed RX12) {Acc : ((Int32 × St) ⊕ (Int32 × St)) → Prop}  (v3 : Int32) (s : St) (hb1 : ∀ (a3 : Int32) (t : St), Acc (.inl (a3, t)) → KK SM G 98 [(0, .ref (ad G 0)), (3, .int a3)] [] t) (hx1 : ∀ (a3 : Int32) (t : St), Acc (.inr (a3, t)) → KK SM G 240 [(0, .ref (ad G 0)), (3, .int a3)] [] t) : JJ SM G Acc (f_Mo_freed_J237_1 v3 s) 237 [(0, .ref (ad G 0)), (3, .int v3)] [] s := by
  unfold f_Mo_freed_J237_1
  refine jr_goto C (tgt := 98) dX12_freed_237 (by decide) ?_
  exact jr_end (fun h => hb1 v3 s h)
noncomputable def f_Mo_freed_J216_1 (v5 : Int32) (w0 : Int32) (s : St) : Option ((Int32 × St) ⊕ (Int32 × St)) :=
  if w0 = 0 then
  f_Mo_freed_J237_1 w0 s
  else
  gd ((101 * (s.1 0 28)) + v5) 202 <|
  lt (uI s 30 (((101 * (s.1 0 28)) + v5) : Int32).toNatClampNeg 0) fun s19 =>
  f_Mo_freed_J237_1 w0 s19
set_option maxHeartbeats 4000000 in
set_option maxRecDepth 100000 in
theorem t_Mo_freed_J216_1 (G : GG) (hR : gR G = rmx 0 0) (hL : gL G = 8) (C : Cx SM G cX12_freed RX12) {Acc : ((Int32 × St) ⊕ (Int32 × St)) → Prop}  (v5 : Int32) (w0 : Int32) (s : St) (hb1 : ∀ (a3 : Int32) (t : St), Acc (.inl (a3, t)) → KK SM G 98 [(0, .ref (ad G 0)), (3, .int a3)] [] t) (hx1 : ∀ (a3 : Int32) (t : St), Acc (.inr (a3, t)) → KK SM G 240 [(0, .ref (ad G 0)), (3, .int a3)] [] t) : JJ SM G Acc (f_Mo_freed_J216_1 v5 w0 s) 216 [(0, .ref (ad G 0)), (5, .int v5)] [.int w0] s := by
  unfold f_Mo_freed_J216_1
  refine jr_istore_n C (lv' := [(3, .int w0), (0, .ref (ad G 0)), (5, .int v5)]) (ltL hL rfl) rfl rfl dX12_freed_216 ?_
  refine jr_iload_n C 0 rfl rfl dX12_freed_217 ?_
  refine jr_if_eq C (tgt := 237) dX12_freed_218 (by decide) (fun h18 => ?_) (fun h18 => ?_)
  · refine jo_pos h18 ?_
    refine jr_lv [1, 0] rfl ?_
    exact t_Mo_freed_J237_1 G hR hL C  w0 s hb1 hx1
  refine jo_neg h18 ?_
  refine jr_aload_n C 1 rfl rfl dX12_freed_221 ?_
  refine jr_getR C FX_10 47 oS_0.1 oS_0.2 ff_10_47.1 ff_10_47.2 rfl fl_X12_106 dX12_freed_222 ?_
  refine jr_bipush C bp_101 dX12_freed_225 ?_
  refine jr_aload_n C 1 rfl rfl dX12_freed_227 ?_
  refine jr_getI C FX_10 28 oS_0.1 oS_0.2 ff_10_28.1 ff_10_28.2 fl_X12_394 dX12_freed_228 ?_
  refine jr_imul C dX12_freed_231 ?_
  refine jr_iload C 2 rfl dX12_freed_232 ?_
  refine jr_iadd C dX12_freed_234 ?_
  refine jr_iconst C ic_0 dX12_freed_235 ?_
  refine jr_iast C oS_30.1 oS_30.2.1 oS_30.2.2 dX12_freed_236 (jr_ltS fun s19 => ?_)
  refine jr_lv [1, 0] rfl ?_
  exact t_Mo_freed_J237_1 G hR hL C  w0 s19 hb1 hx1
noncomputable def f_Mo_freed_L98 (v3 : Int32) (s : St) : Option ((Int32 × St) ⊕ (Int32 × St)) :=
  if v3 = 0 then
  some (.inr (v3, s))
  else
  (wh (fun a : (Int32 × Int32 × Int32) => f_Mo_freed_L111_2 a.1 a.2.1 a.2.2 s) (0, 0, 1)).bind (fun b16 =>
  if b16.1 ≤ 512 then
  f_Mo_freed_J216_1 (b16.2.1) 0 s
  else
  f_Mo_freed_J216_1 (b16.2.1) 1 s)
set_option maxHeartbeats 4000000 in
set_option maxRecDepth 100000 in
theorem t_Mo_freed_L98 (G : GG) (hR : gR G = rmx 0 0) (hL : gL G = 8) (C : Cx SM G cX12_freed RX12) {Acc : ((Int32 × St) ⊕ (Int32 × St)) → Prop}  (v3 : Int32) (s : St) (hb1 : ∀ (a3 : Int32) (t : St), Acc (.inl (a3, t)) → KK SM G 98 [(0, .ref (ad G 0)), (3, .int a3)] [] t) (hx1 : ∀ (a3 : Int32) (t : St), Acc (.inr (a3, t)) → KK SM G 240 [(0, .ref (ad G 0)), (3, .int a3)] [] t) : JJ SM G Acc (f_Mo_freed_L98 v3 s) 98 [(0, .ref (ad G 0)), (3, .int v3)] [] s := by
  unfold f_Mo_freed_L98
  refine jr_iload_n C 1 rfl rfl dX12_freed_98 ?_
  refine jr_if_eq C (tgt := 240) dX12_freed_99 (by decide) (fun h9 => ?_) (fun h9 => ?_)
  · refine jo_pos h9 ?_
    exact jr_end (fun h => hx1 v3 s h)
  refine jo_neg h9 ?_
  refine jr_iconst C ic_0 dX12_freed_102 ?_
  refine jr_istore C (lv' := [(4, .int 0), (0, .ref (ad G 0)), (3, .int v3)]) (ltL hL rfl) rfl dX12_freed_103 ?_
  refine jr_iconst C ic_0 dX12_freed_105 ?_
  refine jr_istore C (lv' := [(5, .int 0), (4, .int 0), (0, .ref (ad G 0)), (3, .int v3)]) (ltL hL rfl) rfl dX12_freed_106 ?_
  refine jr_iconst C ic_1 dX12_freed_108 ?_
  refine jr_istore C (lv' := [(6, .int 1), (5, .int 0), (4, .int 0), (0, .ref (ad G 0)), (3, .int v3)]) (ltL hL rfl) rfl dX12_freed_109 ?_
  refine jr_lv [3, 2, 1, 0] rfl ?_
  refine jr_loopB (pc := 111) (pcx := 203) (f := fun a : (Int32 × Int32 × Int32) => f_Mo_freed_L111_2 a.1 a.2.1 a.2.2 s) (fun a : (Int32 × Int32 × Int32) => [(0, .ref (ad G 0)), (4, .int (a.1)), (5, .int (a.2.1)), (6, .int (a.2.2))]) (fun a : (Int32 × Int32 × Int32) => s) (0, 0, 1) (fun a => t_Mo_freed_L111_2 G hR hL C  a.1 a.2.1 a.2.2 s (fun _ _ _ h => h) (fun _ _ _ h => h)) (fun b16 => ?_)
  refine jr_iload C 1 rfl dX12_freed_203 ?_
  refine jr_sipush C sp_512 dX12_freed_205 ?_
  refine jr_icmp_le C (tgt := 215) dX12_freed_208 (by decide) (fun h17 => ?_) (fun h17 => ?_)
  · refine jo_pos h17 ?_
    refine jr_iconst C ic_0 dX12_freed_215 ?_
    refine jr_lv [0, 2] rfl ?_
    exact t_Mo_freed_J216_1 G hR hL C  (b16.2.1) 0 s hb1 hx1
  refine jo_neg h17 ?_
  refine jr_iconst C ic_1 dX12_freed_211 ?_
  refine jr_goto C (tgt := 216) dX12_freed_212 (by decide) ?_
  refine jr_lv [0, 2] rfl ?_
  exact t_Mo_freed_J216_1 G hR hL C  (b16.2.1) 1 s hb1 hx1
noncomputable def f_Mo_freed (v1 : Int32) (s : St) : Option St :=
  lt ((101 * (s.1 0 28)) + v1) fun x1 =>
  (wh (fun a : (Int32 × St) => f_Mo_freed_L12 x1 a.1 a.2) (0, s)).bind (fun b4 =>
  gd x1 202 <|
  lt (uI (b4.2) 30 (x1 : Int32).toNatClampNeg 1) fun s5 =>
  gd x1 202 <|
  lt (uI s5 32 (x1 : Int32).toNatClampNeg (s5.1 0 69)) fun s6 =>
  gd (s6.1 0 28) 2 <|
  gd (s6.1 0 28) 2 <|
  lt (uI s6 35 ((s6.1 0 28) : Int32).toNatClampNeg ((s6.1 35 ((s6.1 0 28) : Int32).toNatClampNeg) + 1)) fun s7 =>
  gd (s7.1 0 28) 2 <|
  gd x1 202 <|
  lt (uI s7 33 (x1 : Int32).toNatClampNeg (s7.1 35 ((s7.1 0 28) : Int32).toNatClampNeg)) fun s8 =>
  (wh (fun a : (Int32 × St) => f_Mo_freed_L98 a.1 a.2) (1, s8)).bind (fun b20 =>
  some (b20.2)))
set_option maxHeartbeats 4000000 in
set_option maxRecDepth 100000 in
theorem t_Mo_freed (G : GG) (hR : gR G = rmx 0 0) (hL : gL G = 8) (C : Cx SM G cX12_freed RX12) {Acc : St → Prop}  (v1 : Int32) (s : St) (hr : ∀ v : St, Acc v → RtV SM G cX12_freed v) : JJ SM G Acc (f_Mo_freed v1 s) 0 [(0, .ref (ad G 0)), (1, .int v1)] [] s := by
  unfold f_Mo_freed
  refine jr_bipush C bp_101 dX12_freed_0 ?_
  refine jr_aload_n C 0 rfl rfl dX12_freed_2 ?_
  refine jr_getI C FX_10 28 oS_0.1 oS_0.2 ff_10_28.1 ff_10_28.2 fl_X12_394 dX12_freed_3 ?_
  refine jr_imul C dX12_freed_6 ?_
  refine jr_iload_n C 1 rfl rfl dX12_freed_7 ?_
  refine jr_iadd C dX12_freed_8 ?_
  refine jr_ltI (fun x1 => ?_)
  refine jr_istore_n C (lv' := [(2, .int x1), (0, .ref (ad G 0)), (1, .int v1)]) (ltL hL rfl) rfl rfl dX12_freed_9 ?_
  refine jr_iconst C ic_0 dX12_freed_10 ?_
  refine jr_istore_n C (lv' := [(3, .int 0), (2, .int x1), (0, .ref (ad G 0)), (1, .int v1)]) (ltL hL rfl) rfl rfl dX12_freed_11 ?_
  refine jr_lv [2, 1, 0] rfl ?_
  refine jr_loopB (pc := 12) (pcx := 51) (f := fun a : (Int32 × St) => f_Mo_freed_L12 x1 a.1 a.2) (fun a : (Int32 × St) => [(0, .ref (ad G 0)), (2, .int x1), (3, .int (a.1))]) (fun a : (Int32 × St) => a.2) (0, s) (fun a => t_Mo_freed_L12 G hR hL C  x1 a.1 a.2 (fun _ _ h => h) (fun _ _ h => h)) (fun b4 => ?_)
  refine jr_aload_n C 0 rfl rfl dX12_freed_51 ?_
  refine jr_getR C FX_10 47 oS_0.1 oS_0.2 ff_10_47.1 ff_10_47.2 rfl fl_X12_106 dX12_freed_52 ?_
  refine jr_iload_n C 1 rfl rfl dX12_freed_55 ?_
  refine jr_iconst C ic_1 dX12_freed_56 ?_
  refine jr_iast C oS_30.1 oS_30.2.1 oS_30.2.2 dX12_freed_57 (jr_ltS fun s5 => ?_)
  refine jr_aload_n C 0 rfl rfl dX12_freed_58 ?_
  refine jr_getR C FX_10 49 oS_0.1 oS_0.2 ff_10_49.1 ff_10_49.2 rfl fl_X12_112 dX12_freed_59 ?_
  refine jr_iload_n C 1 rfl rfl dX12_freed_62 ?_
  refine jr_aload_n C 0 rfl rfl dX12_freed_63 ?_
  refine jr_getI C FX_10 69 oS_0.1 oS_0.2 ff_10_69.1 ff_10_69.2 fl_X12_420 dX12_freed_64 ?_
  refine jr_iast C oS_32.1 oS_32.2.1 oS_32.2.2 dX12_freed_67 (jr_ltS fun s6 => ?_)
  refine jr_aload_n C 0 rfl rfl dX12_freed_68 ?_
  refine jr_getR C FX_10 52 oS_0.1 oS_0.2 ff_10_52.1 ff_10_52.2 rfl fl_X12_121 dX12_freed_69 ?_
  refine jr_aload_n C 0 rfl rfl dX12_freed_72 ?_
  refine jr_getI C FX_10 28 oS_0.1 oS_0.2 ff_10_28.1 ff_10_28.2 fl_X12_394 dX12_freed_73 ?_
  refine jr_dup2 C rfl rfl dX12_freed_76 ?_
  refine jr_iald C oS_35.1 oS_35.2.1 oS_35.2.2 dX12_freed_77 ?_
  refine jr_iconst C ic_1 dX12_freed_78 ?_
  refine jr_iadd C dX12_freed_79 ?_
  refine jr_iast C oS_35.1 oS_35.2.1 oS_35.2.2 dX12_freed_80 (jr_ltS fun s7 => ?_)
  refine jr_aload_n C 0 rfl rfl dX12_freed_81 ?_
  refine jr_getR C FX_10 50 oS_0.1 oS_0.2 ff_10_50.1 ff_10_50.2 rfl fl_X12_115 dX12_freed_82 ?_
  refine jr_iload_n C 1 rfl rfl dX12_freed_85 ?_
  refine jr_aload_n C 0 rfl rfl dX12_freed_86 ?_
  refine jr_getR C FX_10 52 oS_0.1 oS_0.2 ff_10_52.1 ff_10_52.2 rfl fl_X12_121 dX12_freed_87 ?_
  refine jr_aload_n C 0 rfl rfl dX12_freed_90 ?_
  refine jr_getI C FX_10 28 oS_0.1 oS_0.2 ff_10_28.1 ff_10_28.2 fl_X12_394 dX12_freed_91 ?_
  refine jr_iald C oS_35.1 oS_35.2.1 oS_35.2.2 dX12_freed_94 ?_
  refine jr_iast C oS_33.1 oS_33.2.1 oS_33.2.2 dX12_freed_95 (jr_ltS fun s8 => ?_)
  refine jr_iconst C ic_1 dX12_freed_96 ?_
  refine jr_istore_n C (lv' := [(3, .int 1), (0, .ref (ad G 0)), (2, .int x1)]) (ltL hL rfl) rfl rfl dX12_freed_97 ?_
  refine jr_lv [1, 0] rfl ?_
  refine jr_loopB (pc := 98) (pcx := 240) (f := fun a : (Int32 × St) => f_Mo_freed_L98 a.1 a.2) (fun a : (Int32 × St) => [(0, .ref (ad G 0)), (3, .int (a.1))]) (fun a : (Int32 × St) => a.2) (1, s8) (fun a => t_Mo_freed_L98 G hR hL C  a.1 a.2 (fun _ _ h => h) (fun _ _ h => h)) (fun b20 => ?_)
  exact jr_end (fun h => hr (b20.2) h _ _ dX12_freed_240)
set_option maxRecDepth 100000 in
theorem c_Mo_freed (l : Launch)  (v1 : Int32) (s : St) {q : St} (h : f_Mo_freed v1 s = some q) : CT SM l yX12_freed cX12_freed 8 none 0 0 (fun a => [.ref (a 0), .int v1]) s q (fun _ => none) :=
  ct_V okX_M (by decide) (fun _ => Nat.le_of_ble_eq_true rfl) (fun G hl hR hL C hr => t_Mo_freed G hR hL C (Acc := fun v => v = q)  v1 s (fun v hv => by rw [hv]; exact hr) ⟨_, h, rfl⟩)
noncomputable def f_Mo_free_J18 (v1 : Int32) (s : St) : Option St :=
  (f_Mo_value v1 s).bind fun q4 =>
  if q4 = 0 then
  some s
  else
  (f_Mo_inUse q4 s).bind fun q7 =>
  if q7 = 0 then
  ((f_Mo_blockAt q4 s).bind fun q12 =>
  (f_Mo_told 7 q12 s).bind fun q14 =>
  some q14)
  else
  (f_Mo_freed q7 s).bind fun q10 =>
  some q10
set_option maxHeartbeats 4000000 in
set_option maxRecDepth 100000 in
theorem t_Mo_free_J18 (G : GG) (hR : gR G = rmx 2 43) (hL : gL G = 4) (C : Cx SM G cX12_free RX12) {Acc : St → Prop}  (v1 : Int32) (s : St) (hr : ∀ v : St, Acc v → RtV SM G cX12_free v) : JJ SM G Acc (f_Mo_free_J18 v1 s) 18 [(0, .ref (ad G 0)), (1, .int v1)] [] s := by
  unfold f_Mo_free_J18
  refine jr_aload_n C 0 rfl rfl dX12_free_18 ?_
  refine jr_iload_n C 1 rfl rfl dX12_free_19 ?_
  refine jr_bind (fun q4 e5 => ?_)
  refine jr_callVI C FX_10 km_X12_451 oS_0.1 oS_0.2 (rk hR rfl) (c_Mo_value (gl G) v1 s e5) rfl rfl rfl (Nat.le_of_ble_eq_true rfl) dX12_free_20 ?_
  refine jr_istore_n C (lv' := [(2, .int q4), (0, .ref (ad G 0)), (1, .int v1)]) (ltL hL rfl) rfl rfl dX12_free_23 ?_
  refine jr_iload_n C 0 rfl rfl dX12_free_24 ?_
  refine jr_if_ne C (tgt := 29) dX12_free_25 (by decide) (fun h6 => ?_) (fun h6 => ?_)
  · refine jo_neg h6 ?_
    refine jr_aload_n C 1 rfl rfl dX12_free_29 ?_
    refine jr_iload_n C 0 rfl rfl dX12_free_30 ?_
    refine jr_bind (fun q7 e8 => ?_)
    refine jr_callVI C FX_10 km_X12_506 oS_0.1 oS_0.2 (rk hR rfl) (c_Mo_inUse (gl G) q4 s e8) rfl rfl rfl (Nat.le_of_ble_eq_true rfl) dX12_free_31 ?_
    refine jr_istore_n C (lv' := [(3, .int q7), (2, .int q4), (0, .ref (ad G 0)), (1, .int v1)]) (ltL hL rfl) rfl rfl dX12_free_34 ?_
    refine jr_iload_n C 0 rfl rfl dX12_free_35 ?_
    refine jr_if_ne C (tgt := 53) dX12_free_36 (by decide) (fun h9 => ?_) (fun h9 => ?_)
    · refine jo_neg h9 ?_
      refine jr_aload_n C 2 rfl rfl dX12_free_53 ?_
      refine jr_iload_n C 0 rfl rfl dX12_free_54 ?_
      refine jr_bind (fun q10 e11 => ?_)
      refine jr_callVV C FX_10 km_X12_509 oS_0.1 oS_0.2 (rk hR rfl) (c_Mo_freed (gl G) q7 s e11) rfl rfl rfl (Nat.le_of_ble_eq_true rfl) dX12_free_55 ?_
      exact jr_end (fun h => hr q10 h _ _ dX12_free_58)
    refine jo_pos h9 ?_
    refine jr_aload_n C 2 rfl rfl dX12_free_39 ?_
    refine jr_bipush C bp_7 dX12_free_40 ?_
    refine jr_aload_n C 2 rfl rfl dX12_free_42 ?_
    refine jr_iload_n C 1 rfl rfl dX12_free_43 ?_
    refine jr_bind (fun q12 e13 => ?_)
    refine jr_callVI C FX_10 km_X12_483 oS_0.1 oS_0.2 (rk hR rfl) (c_Mo_blockAt (gl G) q4 s e13) rfl rfl rfl (Nat.le_of_ble_eq_true rfl) dX12_free_44 ?_
    refine jr_bind (fun q14 e15 => ?_)
    refine jr_callVV C FX_10 km_X12_460 oS_0.1 oS_0.2 (rk hR rfl) (c_Mo_told (gl G) 7 q12 s e15) rfl rfl rfl (Nat.le_of_ble_eq_true rfl) dX12_free_47 ?_
    refine jr_goto C (tgt := 58) dX12_free_50 (by decide) ?_
    exact jr_end (fun h => hr q14 h _ _ dX12_free_58)
  refine jo_pos h6 ?_
  exact jr_end (fun h => hr s h _ _ dX12_free_28)
noncomputable def f_Mo_free (v1 : Int32) (s : St) : Option St :=
  (f_Mo_shade v1 s).bind fun q1 =>
  if q1 = 0 then
  f_Mo_free_J18 v1 s
  else
  (f_Mo_origin v1 s).bind fun q16 =>
  (f_Mo_told 2 q16 s).bind fun q18 =>
  f_Mo_free_J18 v1 q18
set_option maxHeartbeats 4000000 in
set_option maxRecDepth 100000 in
theorem t_Mo_free (G : GG) (hR : gR G = rmx 2 43) (hL : gL G = 4) (C : Cx SM G cX12_free RX12) {Acc : St → Prop}  (v1 : Int32) (s : St) (hr : ∀ v : St, Acc v → RtV SM G cX12_free v) : JJ SM G Acc (f_Mo_free v1 s) 0 [(0, .ref (ad G 0)), (1, .int v1)] [] s := by
  unfold f_Mo_free
  refine jr_aload_n C 0 rfl rfl dX12_free_0 ?_
  refine jr_iload_n C 1 rfl rfl dX12_free_1 ?_
  refine jr_bind (fun q1 e2 => ?_)
  refine jr_callVI C FX_10 km_X12_454 oS_0.1 oS_0.2 (rk hR rfl) (c_Mo_shade (gl G) v1 s e2) rfl rfl rfl (Nat.le_of_ble_eq_true rfl) dX12_free_2 ?_
  refine jr_if_eq C (tgt := 18) dX12_free_5 (by decide) (fun h3 => ?_) (fun h3 => ?_)
  · refine jo_pos h3 ?_
    exact t_Mo_free_J18 G hR hL C  v1 s hr
  refine jo_neg h3 ?_
  refine jr_aload_n C 0 rfl rfl dX12_free_8 ?_
  refine jr_iconst C ic_2 dX12_free_9 ?_
  refine jr_aload_n C 0 rfl rfl dX12_free_10 ?_
  refine jr_iload_n C 1 rfl rfl dX12_free_11 ?_
  refine jr_bind (fun q16 e17 => ?_)
  refine jr_callVI C FX_10 km_X12_457 oS_0.1 oS_0.2 (rk hR rfl) (c_Mo_origin (gl G) v1 s e17) rfl rfl rfl (Nat.le_of_ble_eq_true rfl) dX12_free_12 ?_
  refine jr_bind (fun q18 e19 => ?_)
  refine jr_callVV C FX_10 km_X12_460 oS_0.1 oS_0.2 (rk hR rfl) (c_Mo_told (gl G) 2 q16 s e19) rfl rfl rfl (Nat.le_of_ble_eq_true rfl) dX12_free_15 ?_
  exact t_Mo_free_J18 G hR hL C  v1 q18 hr
set_option maxRecDepth 100000 in
theorem c_Mo_free (l : Launch)  (v1 : Int32) (s : St) {q : St} (h : f_Mo_free v1 s = some q) : CT SM l yX12_free cX12_free 4 none 2 43 (fun a => [.ref (a 0), .int v1]) s q (fun _ => none) :=
  ct_V okX_M (by decide) (fun _ => Nat.le_of_ble_eq_true rfl) (fun G hl hR hL C hr => t_Mo_free G hR hL C (Acc := fun v => v = q)  v1 s (fun v hv => by rw [hv]; exact hr) ⟨_, h, rfl⟩)
noncomputable def f_Mo_grow_J393 (w0 : Int32) (w1 : Int32) (s : St) : Option St :=
  (f_Mo_give w1 w0 0 0 s).bind fun q20 =>
  some q20
set_option maxHeartbeats 4000000 in
set_option maxRecDepth 100000 in
theorem t_Mo_grow_J393 (G : GG) (hR : gR G = rmx 3 68) (hL : gL G = 10) (C : Cx SM G cX12_grow RX12) {Acc : St → Prop}  (w0 : Int32) (w1 : Int32) (s : St) (hr : ∀ v : St, Acc v → RtV SM G cX12_grow v) : JJ SM G Acc (f_Mo_grow_J393 w0 w1 s) 393 [] [.int w0, .int w1, .ref (ad G 0)] s := by
  unfold f_Mo_grow_J393
  refine jr_iconst C ic_0 dX12_grow_393 ?_
  refine jr_iconst C ic_0 dX12_grow_394 ?_
  refine jr_bind (fun q20 e21 => ?_)
  refine jr_callVV C FX_10 km_X12_473 oS_0.1 oS_0.2 (rk hR rfl) (c_Mo_give (gl G) w1 w0 0 0 s e21) rfl rfl rfl (Nat.le_of_ble_eq_true rfl) dX12_grow_395 ?_
  exact jr_end (fun h => hr q20 h _ _ dX12_grow_398)
noncomputable def f_Mo_grow_J362 (v1 : Int32) (v5 : Int32) (s : St) : Option St :=
  gd v1 1200 <|
  if v5 ≤ 0 then
  f_Mo_grow_J393 0 (s.1 5 (v1 : Int32).toNatClampNeg) s
  else
  gd ((101 * (s.1 0 28)) + v5) 202 <|
  f_Mo_grow_J393 (s.1 28 (((101 * (s.1 0 28)) + v5) : Int32).toNatClampNeg) (s.1 5 (v1 : Int32).toNatClampNeg) s
set_option maxHeartbeats 4000000 in
set_option maxRecDepth 100000 in
theorem t_Mo_grow_J362 (G : GG) (hR : gR G = rmx 3 68) (hL : gL G = 10) (C : Cx SM G cX12_grow RX12) {Acc : St → Prop}  (v1 : Int32) (v5 : Int32) (s : St) (hr : ∀ v : St, Acc v → RtV SM G cX12_grow v) : JJ SM G Acc (f_Mo_grow_J362 v1 v5 s) 362 [(0, .ref (ad G 0)), (1, .int v1), (5, .int v5)] [] s := by
  unfold f_Mo_grow_J362
  refine jr_aload_n C 0 rfl rfl dX12_grow_362 ?_
  refine jr_aload_n C 0 rfl rfl dX12_grow_363 ?_
  refine jr_getR C FX_10 6 oS_0.1 oS_0.2 ff_10_6.1 ff_10_6.2 rfl fl_X12_24 dX12_grow_364 ?_
  refine jr_iload_n C 1 rfl rfl dX12_grow_367 ?_
  refine jr_iald C oS_5.1 oS_5.2.1 oS_5.2.2 dX12_grow_368 ?_
  refine jr_iload C 2 rfl dX12_grow_369 ?_
  refine jr_if_le C (tgt := 392) dX12_grow_371 (by decide) (fun h19 => ?_) (fun h19 => ?_)
  · refine jo_pos h19 ?_
    refine jr_iconst C ic_0 dX12_grow_392 ?_
    refine jr_lv [] rfl ?_
    exact t_Mo_grow_J393 G hR hL C  0 (s.1 5 (v1 : Int32).toNatClampNeg) s hr
  refine jo_neg h19 ?_
  refine jr_aload_n C 0 rfl rfl dX12_grow_374 ?_
  refine jr_getR C FX_10 45 oS_0.1 oS_0.2 ff_10_45.1 ff_10_45.2 rfl fl_X12_100 dX12_grow_375 ?_
  refine jr_bipush C bp_101 dX12_grow_378 ?_
  refine jr_aload_n C 0 rfl rfl dX12_grow_380 ?_
  refine jr_getI C FX_10 28 oS_0.1 oS_0.2 ff_10_28.1 ff_10_28.2 fl_X12_394 dX12_grow_381 ?_
  refine jr_imul C dX12_grow_384 ?_
  refine jr_iload C 2 rfl dX12_grow_385 ?_
  refine jr_iadd C dX12_grow_387 ?_
  refine jr_iald C oS_28.1 oS_28.2.1 oS_28.2.2 dX12_grow_388 ?_
  refine jr_goto C (tgt := 393) dX12_grow_389 (by decide) ?_
  refine jr_lv [] rfl ?_
  exact t_Mo_grow_J393 G hR hL C  (s.1 28 (((101 * (s.1 0 28)) + v5) : Int32).toNatClampNeg) (s.1 5 (v1 : Int32).toNatClampNeg) s hr
noncomputable def f_Mo_grow_J349_1 (v1 : Int32) (v4 : Int32) (v5 : Int32) (v6 : Int32) (v7 : Int32) (v8 : Int32) (v9 : Int32) (w0 : Int32) (w1 : Int32) (s : St) : Option ((Int32 × St) ⊕ (Int32 × St)) :=
  gd w1 8192 <|
  lt (uI s 18 (w1 : Int32).toNatClampNeg w0) fun s30 =>
  some (.inl ((v9 + 1), s30))
set_option maxHeartbeats 4000000 in
set_option maxRecDepth 100000 in
theorem t_Mo_grow_J349_1 (G : GG) (hR : gR G = rmx 3 68) (hL : gL G = 10) (C : Cx SM G cX12_grow RX12) {Acc : ((Int32 × St) ⊕ (Int32 × St)) → Prop}  (v1 : Int32) (v4 : Int32) (v5 : Int32) (v6 : Int32) (v7 : Int32) (v8 : Int32) (v9 : Int32) (w0 : Int32) (w1 : Int32) (s : St) (hb1 : ∀ (a9 : Int32) (t : St), Acc (.inl (a9, t)) → KK SM G 203 [(0, .ref (ad G 0)), (1, .int v1), (4, .int v4), (5, .int v5), (6, .int v6), (7, .int v7), (8, .int v8), (9, .int a9)] [] t) (hx1 : ∀ (a9 : Int32) (t : St), Acc (.inr (a9, t)) → KK SM G 356 [(0, .ref (ad G 0)), (1, .int v1), (4, .int v4), (5, .int v5), (6, .int v6), (7, .int v7), (8, .int v8), (9, .int a9)] [] t) : JJ SM G Acc (f_Mo_grow_J349_1 v1 v4 v5 v6 v7 v8 v9 w0 w1 s) 349 [(0, .ref (ad G 0)), (1, .int v1), (4, .int v4), (5, .int v5), (6, .int v6), (7, .int v7), (8, .int v8), (9, .int v9)] [.int w0, .int w1, .ref (ad G 18)] s := by
  unfold f_Mo_grow_J349_1
  refine jr_iast C oS_18.1 oS_18.2.1 oS_18.2.2 dX12_grow_349 (jr_ltS fun s30 => ?_)
  refine jr_iinc C 7 rfl ii_1 (lv' := [(9, .int (v9 + 1)), (0, .ref (ad G 0)), (1, .int v1), (4, .int v4), (5, .int v5), (6, .int v6), (7, .int v7), (8, .int v8)]) (ltL hL rfl) rfl dX12_grow_350 ?_
  refine jr_goto C (tgt := 203) dX12_grow_353 (by decide) ?_
  refine jr_lv [1, 2, 3, 4, 5, 6, 7, 0] rfl ?_
  exact jr_end (fun h => hb1 (v9 + 1) s30 h)
noncomputable def f_Mo_grow_L203 (v1 : Int32) (v4 : Int32) (v5 : Int32) (v6 : Int32) (v7 : Int32) (v8 : Int32) (v9 : Int32) (s : St) : Option ((Int32 × St) ⊕ (Int32 × St)) :=
  if v6 ≤ v9 then
  some (.inr (v9, s))
  else
  gd (((4096 * (s.1 0 28)) + v7) + v9) 8192 <|
  gd (((4096 * (s.1 0 28)) + v8) + v9) 8192 <|
  lt (uI s 16 ((((4096 * (s.1 0 28)) + v8) + v9) : Int32).toNatClampNeg (s.1 16 ((((4096 * (s.1 0 28)) + v7) + v9) : Int32).toNatClampNeg)) fun s27 =>
  gd (((4096 * (s27.1 0 28)) + v7) + v9) 8192 <|
  gd (((4096 * (s27.1 0 28)) + v8) + v9) 8192 <|
  lt (uI s27 17 ((((4096 * (s27.1 0 28)) + v8) + v9) : Int32).toNatClampNeg (s27.1 17 ((((4096 * (s27.1 0 28)) + v7) + v9) : Int32).toNatClampNeg)) fun s28 =>
  gd (((4096 * (s28.1 0 28)) + v7) + v9) 8192 <|
  if (s28.1 17 ((((4096 * (s28.1 0 28)) + v7) + v9) : Int32).toNatClampNeg) = 0 then
  f_Mo_grow_J349_1 v1 v4 v5 v6 v7 v8 v9 0 (((4096 * (s28.1 0 28)) + v8) + v9) s28
  else
  gd (((4096 * (s28.1 0 28)) + v7) + v9) 8192 <|
  f_Mo_grow_J349_1 v1 v4 v5 v6 v7 v8 v9 (s28.1 18 ((((4096 * (s28.1 0 28)) + v7) + v9) : Int32).toNatClampNeg) (((4096 * (s28.1 0 28)) + v8) + v9) s28
set_option maxHeartbeats 4000000 in
set_option maxRecDepth 100000 in
theorem t_Mo_grow_L203 (G : GG) (hR : gR G = rmx 3 68) (hL : gL G = 10) (C : Cx SM G cX12_grow RX12) {Acc : ((Int32 × St) ⊕ (Int32 × St)) → Prop}  (v1 : Int32) (v4 : Int32) (v5 : Int32) (v6 : Int32) (v7 : Int32) (v8 : Int32) (v9 : Int32) (s : St) (hb1 : ∀ (a9 : Int32) (t : St), Acc (.inl (a9, t)) → KK SM G 203 [(0, .ref (ad G 0)), (1, .int v1), (4, .int v4), (5, .int v5), (6, .int v6), (7, .int v7), (8, .int v8), (9, .int a9)] [] t) (hx1 : ∀ (a9 : Int32) (t : St), Acc (.inr (a9, t)) → KK SM G 356 [(0, .ref (ad G 0)), (1, .int v1), (4, .int v4), (5, .int v5), (6, .int v6), (7, .int v7), (8, .int v8), (9, .int a9)] [] t) : JJ SM G Acc (f_Mo_grow_L203 v1 v4 v5 v6 v7 v8 v9 s) 203 [(0, .ref (ad G 0)), (1, .int v1), (4, .int v4), (5, .int v5), (6, .int v6), (7, .int v7), (8, .int v8), (9, .int v9)] [] s := by
  unfold f_Mo_grow_L203
  refine jr_iload C 7 rfl dX12_grow_203 ?_
  refine jr_iload C 4 rfl dX12_grow_205 ?_
  refine jr_icmp_ge C (tgt := 356) dX12_grow_207 (by decide) (fun h26 => ?_) (fun h26 => ?_)
  · refine jo_pos h26 ?_
    exact jr_end (fun h => hx1 v9 s h)
  refine jo_neg h26 ?_
  refine jr_aload_n C 0 rfl rfl dX12_grow_210 ?_
  refine jr_getR C FX_10 33 oS_0.1 oS_0.2 ff_10_33.1 ff_10_33.2 rfl fl_X12_64 dX12_grow_211 ?_
  refine jr_sipush C sp_4096 dX12_grow_214 ?_
  refine jr_aload_n C 0 rfl rfl dX12_grow_217 ?_
  refine jr_getI C FX_10 28 oS_0.1 oS_0.2 ff_10_28.1 ff_10_28.2 fl_X12_394 dX12_grow_218 ?_
  refine jr_imul C dX12_grow_221 ?_
  refine jr_iload C 6 rfl dX12_grow_222 ?_
  refine jr_iadd C dX12_grow_224 ?_
  refine jr_iload C 7 rfl dX12_grow_225 ?_
  refine jr_iadd C dX12_grow_227 ?_
  refine jr_aload_n C 0 rfl rfl dX12_grow_228 ?_
  refine jr_getR C FX_10 33 oS_0.1 oS_0.2 ff_10_33.1 ff_10_33.2 rfl fl_X12_64 dX12_grow_229 ?_
  refine jr_sipush C sp_4096 dX12_grow_232 ?_
  refine jr_aload_n C 0 rfl rfl dX12_grow_235 ?_
  refine jr_getI C FX_10 28 oS_0.1 oS_0.2 ff_10_28.1 ff_10_28.2 fl_X12_394 dX12_grow_236 ?_
  refine jr_imul C dX12_grow_239 ?_
  refine jr_iload C 5 rfl dX12_grow_240 ?_
  refine jr_iadd C dX12_grow_242 ?_
  refine jr_iload C 7 rfl dX12_grow_243 ?_
  refine jr_iadd C dX12_grow_245 ?_
  refine jr_iald C oS_16.1 oS_16.2.1 oS_16.2.2 dX12_grow_246 ?_
  refine jr_iast C oS_16.1 oS_16.2.1 oS_16.2.2 dX12_grow_247 (jr_ltS fun s27 => ?_)
  refine jr_aload_n C 0 rfl rfl dX12_grow_248 ?_
  refine jr_getR C FX_10 34 oS_0.1 oS_0.2 ff_10_34.1 ff_10_34.2 rfl fl_X12_67 dX12_grow_249 ?_
  refine jr_sipush C sp_4096 dX12_grow_252 ?_
  refine jr_aload_n C 0 rfl rfl dX12_grow_255 ?_
  refine jr_getI C FX_10 28 oS_0.1 oS_0.2 ff_10_28.1 ff_10_28.2 fl_X12_394 dX12_grow_256 ?_
  refine jr_imul C dX12_grow_259 ?_
  refine jr_iload C 6 rfl dX12_grow_260 ?_
  refine jr_iadd C dX12_grow_262 ?_
  refine jr_iload C 7 rfl dX12_grow_263 ?_
  refine jr_iadd C dX12_grow_265 ?_
  refine jr_aload_n C 0 rfl rfl dX12_grow_266 ?_
  refine jr_getR C FX_10 34 oS_0.1 oS_0.2 ff_10_34.1 ff_10_34.2 rfl fl_X12_67 dX12_grow_267 ?_
  refine jr_sipush C sp_4096 dX12_grow_270 ?_
  refine jr_aload_n C 0 rfl rfl dX12_grow_273 ?_
  refine jr_getI C FX_10 28 oS_0.1 oS_0.2 ff_10_28.1 ff_10_28.2 fl_X12_394 dX12_grow_274 ?_
  refine jr_imul C dX12_grow_277 ?_
  refine jr_iload C 5 rfl dX12_grow_278 ?_
  refine jr_iadd C dX12_grow_280 ?_
  refine jr_iload C 7 rfl dX12_grow_281 ?_
  refine jr_iadd C dX12_grow_283 ?_
  refine jr_iald C oS_17.1 oS_17.2.1 oS_17.2.2 dX12_grow_284 ?_
  refine jr_iast C oS_17.1 oS_17.2.1 oS_17.2.2 dX12_grow_285 (jr_ltS fun s28 => ?_)
  refine jr_aload_n C 0 rfl rfl dX12_grow_286 ?_
  refine jr_getR C FX_10 35 oS_0.1 oS_0.2 ff_10_35.1 ff_10_35.2 rfl fl_X12_70 dX12_grow_287 ?_
  refine jr_sipush C sp_4096 dX12_grow_290 ?_
  refine jr_aload_n C 0 rfl rfl dX12_grow_293 ?_
  refine jr_getI C FX_10 28 oS_0.1 oS_0.2 ff_10_28.1 ff_10_28.2 fl_X12_394 dX12_grow_294 ?_
  refine jr_imul C dX12_grow_297 ?_
  refine jr_iload C 6 rfl dX12_grow_298 ?_
  refine jr_iadd C dX12_grow_300 ?_
  refine jr_iload C 7 rfl dX12_grow_301 ?_
  refine jr_iadd C dX12_grow_303 ?_
  refine jr_aload_n C 0 rfl rfl dX12_grow_304 ?_
  refine jr_getR C FX_10 34 oS_0.1 oS_0.2 ff_10_34.1 ff_10_34.2 rfl fl_X12_67 dX12_grow_305 ?_
  refine jr_sipush C sp_4096 dX12_grow_308 ?_
  refine jr_aload_n C 0 rfl rfl dX12_grow_311 ?_
  refine jr_getI C FX_10 28 oS_0.1 oS_0.2 ff_10_28.1 ff_10_28.2 fl_X12_394 dX12_grow_312 ?_
  refine jr_imul C dX12_grow_315 ?_
  refine jr_iload C 5 rfl dX12_grow_316 ?_
  refine jr_iadd C dX12_grow_318 ?_
  refine jr_iload C 7 rfl dX12_grow_319 ?_
  refine jr_iadd C dX12_grow_321 ?_
  refine jr_iald C oS_17.1 oS_17.2.1 oS_17.2.2 dX12_grow_322 ?_
  refine jr_if_eq C (tgt := 348) dX12_grow_323 (by decide) (fun h29 => ?_) (fun h29 => ?_)
  · refine jo_pos h29 ?_
    refine jr_iconst C ic_0 dX12_grow_348 ?_
    exact t_Mo_grow_J349_1 G hR hL C  v1 v4 v5 v6 v7 v8 v9 0 (((4096 * (s28.1 0 28)) + v8) + v9) s28 hb1 hx1
  refine jo_neg h29 ?_
  refine jr_aload_n C 0 rfl rfl dX12_grow_326 ?_
  refine jr_getR C FX_10 35 oS_0.1 oS_0.2 ff_10_35.1 ff_10_35.2 rfl fl_X12_70 dX12_grow_327 ?_
  refine jr_sipush C sp_4096 dX12_grow_330 ?_
  refine jr_aload_n C 0 rfl rfl dX12_grow_333 ?_
  refine jr_getI C FX_10 28 oS_0.1 oS_0.2 ff_10_28.1 ff_10_28.2 fl_X12_394 dX12_grow_334 ?_
  refine jr_imul C dX12_grow_337 ?_
  refine jr_iload C 5 rfl dX12_grow_338 ?_
  refine jr_iadd C dX12_grow_340 ?_
  refine jr_iload C 7 rfl dX12_grow_341 ?_
  refine jr_iadd C dX12_grow_343 ?_
  refine jr_iald C oS_18.1 oS_18.2.1 oS_18.2.2 dX12_grow_344 ?_
  refine jr_goto C (tgt := 349) dX12_grow_345 (by decide) ?_
  exact t_Mo_grow_J349_1 G hR hL C  v1 v4 v5 v6 v7 v8 v9 (s28.1 18 ((((4096 * (s28.1 0 28)) + v7) + v9) : Int32).toNatClampNeg) (((4096 * (s28.1 0 28)) + v8) + v9) s28 hb1 hx1
noncomputable def f_Mo_grow_J164 (v1 : Int32) (v4 : Int32) (v5 : Int32) (w0 : Int32) (s : St) : Option St :=
  gd ((101 * (s.1 0 28)) + v4) 202 <|
  lt (s.1 28 (((101 * (s.1 0 28)) + v4) : Int32).toNatClampNeg) fun x24 =>
  gd ((101 * (s.1 0 28)) + v5) 202 <|
  lt (s.1 28 (((101 * (s.1 0 28)) + v5) : Int32).toNatClampNeg) fun x25 =>
  (wh (fun a : (Int32 × St) => f_Mo_grow_L203 v1 v4 v5 w0 x24 x25 a.1 a.2) (0, s)).bind (fun b31 =>
  (f_Mo_freed v4 (b31.2)).bind fun q32 =>
  f_Mo_grow_J362 v1 v5 q32)
set_option maxHeartbeats 4000000 in
set_option maxRecDepth 100000 in
theorem t_Mo_grow_J164 (G : GG) (hR : gR G = rmx 3 68) (hL : gL G = 10) (C : Cx SM G cX12_grow RX12) {Acc : St → Prop}  (v1 : Int32) (v4 : Int32) (v5 : Int32) (w0 : Int32) (s : St) (hr : ∀ v : St, Acc v → RtV SM G cX12_grow v) : JJ SM G Acc (f_Mo_grow_J164 v1 v4 v5 w0 s) 164 [(0, .ref (ad G 0)), (1, .int v1), (4, .int v4), (5, .int v5)] [.int w0] s := by
  unfold f_Mo_grow_J164
  refine jr_istore C (lv' := [(6, .int w0), (0, .ref (ad G 0)), (1, .int v1), (4, .int v4), (5, .int v5)]) (ltL hL rfl) rfl dX12_grow_164 ?_
  refine jr_aload_n C 1 rfl rfl dX12_grow_166 ?_
  refine jr_getR C FX_10 45 oS_0.1 oS_0.2 ff_10_45.1 ff_10_45.2 rfl fl_X12_100 dX12_grow_167 ?_
  refine jr_bipush C bp_101 dX12_grow_170 ?_
  refine jr_aload_n C 1 rfl rfl dX12_grow_172 ?_
  refine jr_getI C FX_10 28 oS_0.1 oS_0.2 ff_10_28.1 ff_10_28.2 fl_X12_394 dX12_grow_173 ?_
  refine jr_imul C dX12_grow_176 ?_
  refine jr_iload C 3 rfl dX12_grow_177 ?_
  refine jr_iadd C dX12_grow_179 ?_
  refine jr_iald C oS_28.1 oS_28.2.1 oS_28.2.2 dX12_grow_180 ?_
  refine jr_ltI (fun x24 => ?_)
  refine jr_istore C (lv' := [(7, .int x24), (6, .int w0), (0, .ref (ad G 0)), (1, .int v1), (4, .int v4), (5, .int v5)]) (ltL hL rfl) rfl dX12_grow_181 ?_
  refine jr_aload_n C 2 rfl rfl dX12_grow_183 ?_
  refine jr_getR C FX_10 45 oS_0.1 oS_0.2 ff_10_45.1 ff_10_45.2 rfl fl_X12_100 dX12_grow_184 ?_
  refine jr_bipush C bp_101 dX12_grow_187 ?_
  refine jr_aload_n C 2 rfl rfl dX12_grow_189 ?_
  refine jr_getI C FX_10 28 oS_0.1 oS_0.2 ff_10_28.1 ff_10_28.2 fl_X12_394 dX12_grow_190 ?_
  refine jr_imul C dX12_grow_193 ?_
  refine jr_iload C 5 rfl dX12_grow_194 ?_
  refine jr_iadd C dX12_grow_196 ?_
  refine jr_iald C oS_28.1 oS_28.2.1 oS_28.2.2 dX12_grow_197 ?_
  refine jr_ltI (fun x25 => ?_)
  refine jr_istore C (lv' := [(8, .int x25), (7, .int x24), (6, .int w0), (0, .ref (ad G 0)), (1, .int v1), (4, .int v4), (5, .int v5)]) (ltL hL rfl) rfl dX12_grow_198 ?_
  refine jr_iconst C ic_0 dX12_grow_200 ?_
  refine jr_istore C (lv' := [(9, .int 0), (8, .int x25), (7, .int x24), (6, .int w0), (0, .ref (ad G 0)), (1, .int v1), (4, .int v4), (5, .int v5)]) (ltL hL rfl) rfl dX12_grow_201 ?_
  refine jr_lv [4, 5, 6, 7, 3, 2, 1, 0] rfl ?_
  refine jr_loopB (pc := 203) (pcx := 356) (f := fun a : (Int32 × St) => f_Mo_grow_L203 v1 v4 v5 w0 x24 x25 a.1 a.2) (fun a : (Int32 × St) => [(0, .ref (ad G 0)), (1, .int v1), (4, .int v4), (5, .int v5), (6, .int w0), (7, .int x24), (8, .int x25), (9, .int (a.1))]) (fun a : (Int32 × St) => a.2) (0, s) (fun a => t_Mo_grow_L203 G hR hL C  v1 v4 v5 w0 x24 x25 a.1 a.2 (fun _ _ h => h) (fun _ _ h => h)) (fun b31 => ?_)
  refine jr_aload_n C 0 rfl rfl dX12_grow_356 ?_
  refine jr_iload C 2 rfl dX12_grow_357 ?_
  refine jr_bind (fun q32 e33 => ?_)
  refine jr_callVV C FX_10 km_X12_509 oS_0.1 oS_0.2 (rk hR rfl) (c_Mo_freed (gl G) v4 (b31.2) e33) rfl rfl rfl (Nat.le_of_ble_eq_true rfl) dX12_grow_359 ?_
  refine jr_lv [0, 1, 3] rfl ?_
  exact t_Mo_grow_J362 G hR hL C  v1 v5 q32 hr
noncomputable def f_Mo_grow_J109 (v1 : Int32) (v3 : Int32) (v4 : Int32) (s : St) : Option St :=
  (f_Mo_blockOf v3 s).bind fun q15 =>
  lt (q15.1) fun x17 =>
  if x17 ≤ 0 then
  f_Mo_grow_J362 v1 x17 (q15.2)
  else
  if v4 ≤ 0 then
  f_Mo_grow_J362 v1 x17 (q15.2)
  else
  gd ((101 * (q15.2.1 0 28)) + v4) 202 <|
  if v3 ≤ (q15.2.1 29 (((101 * (q15.2.1 0 28)) + v4) : Int32).toNatClampNeg) then
  f_Mo_grow_J164 v1 v4 x17 v3 (q15.2)
  else
  gd ((101 * (q15.2.1 0 28)) + v4) 202 <|
  f_Mo_grow_J164 v1 v4 x17 (q15.2.1 29 (((101 * (q15.2.1 0 28)) + v4) : Int32).toNatClampNeg) (q15.2)
set_option maxHeartbeats 4000000 in
set_option maxRecDepth 100000 in
theorem t_Mo_grow_J109 (G : GG) (hR : gR G = rmx 3 68) (hL : gL G = 10) (C : Cx SM G cX12_grow RX12) {Acc : St → Prop}  (v1 : Int32) (v3 : Int32) (v4 : Int32) (s : St) (hr : ∀ v : St, Acc v → RtV SM G cX12_grow v) : JJ SM G Acc (f_Mo_grow_J109 v1 v3 v4 s) 109 [(0, .ref (ad G 0)), (1, .int v1), (3, .int v3), (4, .int v4)] [] s := by
  unfold f_Mo_grow_J109
  refine jr_aload_n C 0 rfl rfl dX12_grow_109 ?_
  refine jr_iload_n C 2 rfl rfl dX12_grow_110 ?_
  refine jr_bind (fun q15 e16 => ?_)
  refine jr_callVI C FX_10 km_X12_503 oS_0.1 oS_0.2 (rk hR rfl) (c_Mo_blockOf (gl G) v3 s e16) rfl rfl rfl (Nat.le_of_ble_eq_true rfl) dX12_grow_111 ?_
  refine jr_ltI (fun x17 => ?_)
  refine jr_istore C (lv' := [(5, .int x17), (0, .ref (ad G 0)), (1, .int v1), (3, .int v3), (4, .int v4)]) (ltL hL rfl) rfl dX12_grow_114 ?_
  refine jr_iload C 0 rfl dX12_grow_116 ?_
  refine jr_if_le C (tgt := 362) dX12_grow_118 (by decide) (fun h18 => ?_) (fun h18 => ?_)
  · refine jo_pos h18 ?_
    refine jr_lv [1, 2, 0] rfl ?_
    exact t_Mo_grow_J362 G hR hL C  v1 x17 (q15.2) hr
  refine jo_neg h18 ?_
  refine jr_iload C 4 rfl dX12_grow_121 ?_
  refine jr_if_le C (tgt := 362) dX12_grow_123 (by decide) (fun h22 => ?_) (fun h22 => ?_)
  · refine jo_pos h22 ?_
    refine jr_lv [1, 2, 0] rfl ?_
    exact t_Mo_grow_J362 G hR hL C  v1 x17 (q15.2) hr
  refine jo_neg h22 ?_
  refine jr_aload_n C 1 rfl rfl dX12_grow_126 ?_
  refine jr_getR C FX_10 46 oS_0.1 oS_0.2 ff_10_46.1 ff_10_46.2 rfl fl_X12_103 dX12_grow_127 ?_
  refine jr_bipush C bp_101 dX12_grow_130 ?_
  refine jr_aload_n C 1 rfl rfl dX12_grow_132 ?_
  refine jr_getI C FX_10 28 oS_0.1 oS_0.2 ff_10_28.1 ff_10_28.2 fl_X12_394 dX12_grow_133 ?_
  refine jr_imul C dX12_grow_136 ?_
  refine jr_iload C 4 rfl dX12_grow_137 ?_
  refine jr_iadd C dX12_grow_139 ?_
  refine jr_iald C oS_29.1 oS_29.2.1 oS_29.2.2 dX12_grow_140 ?_
  refine jr_iload_n C 3 rfl rfl dX12_grow_141 ?_
  refine jr_icmp_ge C (tgt := 163) dX12_grow_142 (by decide) (fun h23 => ?_) (fun h23 => ?_)
  · refine jo_pos h23 ?_
    refine jr_iload_n C 3 rfl rfl dX12_grow_163 ?_
    refine jr_lv [1, 2, 4, 0] rfl ?_
    exact t_Mo_grow_J164 G hR hL C  v1 v4 x17 v3 (q15.2) hr
  refine jo_neg h23 ?_
  refine jr_aload_n C 1 rfl rfl dX12_grow_145 ?_
  refine jr_getR C FX_10 46 oS_0.1 oS_0.2 ff_10_46.1 ff_10_46.2 rfl fl_X12_103 dX12_grow_146 ?_
  refine jr_bipush C bp_101 dX12_grow_149 ?_
  refine jr_aload_n C 1 rfl rfl dX12_grow_151 ?_
  refine jr_getI C FX_10 28 oS_0.1 oS_0.2 ff_10_28.1 ff_10_28.2 fl_X12_394 dX12_grow_152 ?_
  refine jr_imul C dX12_grow_155 ?_
  refine jr_iload C 4 rfl dX12_grow_156 ?_
  refine jr_iadd C dX12_grow_158 ?_
  refine jr_iald C oS_29.1 oS_29.2.1 oS_29.2.2 dX12_grow_159 ?_
  refine jr_goto C (tgt := 164) dX12_grow_160 (by decide) ?_
  refine jr_lv [1, 2, 4, 0] rfl ?_
  exact t_Mo_grow_J164 G hR hL C  v1 v4 x17 (q15.2.1 29 (((101 * (q15.2.1 0 28)) + v4) : Int32).toNatClampNeg) (q15.2) hr
noncomputable def f_Mo_grow_J73 (v1 : Int32) (v2 : Int32) (v3 : Int32) (w0 : Int32) (s : St) : Option St :=
  if v2 = 0 then
  f_Mo_grow_J109 v1 v3 w0 s
  else
  if w0 = 0 then
  ((f_Mo_blockAt v2 s).bind fun q35 =>
  (f_Mo_told 7 q35 s).bind fun q37 =>
  gd v1 1200 <|
  (f_Mo_give (q37.1 5 (v1 : Int32).toNatClampNeg) 0 0 0 q37).bind fun q39 =>
  some q39)
  else
  f_Mo_grow_J109 v1 v3 w0 s
set_option maxHeartbeats 4000000 in
set_option maxRecDepth 100000 in
theorem t_Mo_grow_J73 (G : GG) (hR : gR G = rmx 3 68) (hL : gL G = 10) (C : Cx SM G cX12_grow RX12) {Acc : St → Prop}  (v1 : Int32) (v2 : Int32) (v3 : Int32) (w0 : Int32) (s : St) (hr : ∀ v : St, Acc v → RtV SM G cX12_grow v) : JJ SM G Acc (f_Mo_grow_J73 v1 v2 v3 w0 s) 73 [(0, .ref (ad G 0)), (1, .int v1), (2, .int v2), (3, .int v3)] [.int w0] s := by
  unfold f_Mo_grow_J73
  refine jr_istore C (lv' := [(4, .int w0), (0, .ref (ad G 0)), (1, .int v1), (2, .int v2), (3, .int v3)]) (ltL hL rfl) rfl dX12_grow_73 ?_
  refine jr_iload_n C 3 rfl rfl dX12_grow_75 ?_
  refine jr_if_eq C (tgt := 109) dX12_grow_76 (by decide) (fun h14 => ?_) (fun h14 => ?_)
  · refine jo_pos h14 ?_
    refine jr_lv [1, 2, 4, 0] rfl ?_
    exact t_Mo_grow_J109 G hR hL C  v1 v3 w0 s hr
  refine jo_neg h14 ?_
  refine jr_iload C 0 rfl dX12_grow_79 ?_
  refine jr_if_ne C (tgt := 109) dX12_grow_81 (by decide) (fun h34 => ?_) (fun h34 => ?_)
  · refine jo_neg h34 ?_
    refine jr_lv [1, 2, 4, 0] rfl ?_
    exact t_Mo_grow_J109 G hR hL C  v1 v3 w0 s hr
  refine jo_pos h34 ?_
  refine jr_aload_n C 1 rfl rfl dX12_grow_84 ?_
  refine jr_bipush C bp_7 dX12_grow_85 ?_
  refine jr_aload_n C 1 rfl rfl dX12_grow_87 ?_
  refine jr_iload_n C 3 rfl rfl dX12_grow_88 ?_
  refine jr_bind (fun q35 e36 => ?_)
  refine jr_callVI C FX_10 km_X12_483 oS_0.1 oS_0.2 (rk hR rfl) (c_Mo_blockAt (gl G) v2 s e36) rfl rfl rfl (Nat.le_of_ble_eq_true rfl) dX12_grow_89 ?_
  refine jr_bind (fun q37 e38 => ?_)
  refine jr_callVV C FX_10 km_X12_460 oS_0.1 oS_0.2 (rk hR rfl) (c_Mo_told (gl G) 7 q35 s e38) rfl rfl rfl (Nat.le_of_ble_eq_true rfl) dX12_grow_92 ?_
  refine jr_aload_n C 1 rfl rfl dX12_grow_95 ?_
  refine jr_aload_n C 1 rfl rfl dX12_grow_96 ?_
  refine jr_getR C FX_10 6 oS_0.1 oS_0.2 ff_10_6.1 ff_10_6.2 rfl fl_X12_24 dX12_grow_97 ?_
  refine jr_iload_n C 2 rfl rfl dX12_grow_100 ?_
  refine jr_iald C oS_5.1 oS_5.2.1 oS_5.2.2 dX12_grow_101 ?_
  refine jr_iconst C ic_0 dX12_grow_102 ?_
  refine jr_iconst C ic_0 dX12_grow_103 ?_
  refine jr_iconst C ic_0 dX12_grow_104 ?_
  refine jr_bind (fun q39 e40 => ?_)
  refine jr_callVV C FX_10 km_X12_473 oS_0.1 oS_0.2 (rk hR rfl) (c_Mo_give (gl G) (q37.1 5 (v1 : Int32).toNatClampNeg) 0 0 0 q37 e40) rfl rfl rfl (Nat.le_of_ble_eq_true rfl) dX12_grow_105 ?_
  exact jr_end (fun h => hr q39 h _ _ dX12_grow_108)
noncomputable def f_Mo_grow_J60 (v1 : Int32) (v2 : Int32) (v3 : Int32) (s : St) : Option St :=
  if v2 = 0 then
  f_Mo_grow_J73 v1 v2 v3 0 s
  else
  (f_Mo_inUse v2 s).bind fun q12 =>
  f_Mo_grow_J73 v1 v2 v3 q12 s
set_option maxHeartbeats 4000000 in
set_option maxRecDepth 100000 in
theorem t_Mo_grow_J60 (G : GG) (hR : gR G = rmx 3 68) (hL : gL G = 10) (C : Cx SM G cX12_grow RX12) {Acc : St → Prop}  (v1 : Int32) (v2 : Int32) (v3 : Int32) (s : St) (hr : ∀ v : St, Acc v → RtV SM G cX12_grow v) : JJ SM G Acc (f_Mo_grow_J60 v1 v2 v3 s) 60 [(0, .ref (ad G 0)), (1, .int v1), (2, .int v2), (3, .int v3)] [] s := by
  unfold f_Mo_grow_J60
  refine jr_iload_n C 2 rfl rfl dX12_grow_60 ?_
  refine jr_if_ne C (tgt := 68) dX12_grow_61 (by decide) (fun h11 => ?_) (fun h11 => ?_)
  · refine jo_neg h11 ?_
    refine jr_aload_n C 0 rfl rfl dX12_grow_68 ?_
    refine jr_iload_n C 2 rfl rfl dX12_grow_69 ?_
    refine jr_bind (fun q12 e13 => ?_)
    refine jr_callVI C FX_10 km_X12_506 oS_0.1 oS_0.2 (rk hR rfl) (c_Mo_inUse (gl G) v2 s e13) rfl rfl rfl (Nat.le_of_ble_eq_true rfl) dX12_grow_70 ?_
    exact t_Mo_grow_J73 G hR hL C  v1 v2 v3 q12 s hr
  refine jo_pos h11 ?_
  refine jr_iconst C ic_0 dX12_grow_64 ?_
  refine jr_goto C (tgt := 73) dX12_grow_65 (by decide) ?_
  exact t_Mo_grow_J73 G hR hL C  v1 v2 v3 0 s hr
noncomputable def f_Mo_grow_J38 (v1 : Int32) (v2 : Int32) (v3 : Int32) (s : St) : Option St :=
  (f_Mo_shade (v1 + 2) s).bind fun q8 =>
  if q8 = 0 then
  f_Mo_grow_J60 v1 v2 v3 s
  else
  (f_Mo_origin (v1 + 2) s).bind fun q41 =>
  (f_Mo_told 5 q41 s).bind fun q43 =>
  f_Mo_grow_J60 v1 v2 v3 q43
set_option maxHeartbeats 4000000 in
set_option maxRecDepth 100000 in
theorem t_Mo_grow_J38 (G : GG) (hR : gR G = rmx 3 68) (hL : gL G = 10) (C : Cx SM G cX12_grow RX12) {Acc : St → Prop}  (v1 : Int32) (v2 : Int32) (v3 : Int32) (s : St) (hr : ∀ v : St, Acc v → RtV SM G cX12_grow v) : JJ SM G Acc (f_Mo_grow_J38 v1 v2 v3 s) 38 [(0, .ref (ad G 0)), (1, .int v1), (2, .int v2), (3, .int v3)] [] s := by
  unfold f_Mo_grow_J38
  refine jr_aload_n C 0 rfl rfl dX12_grow_38 ?_
  refine jr_iload_n C 1 rfl rfl dX12_grow_39 ?_
  refine jr_iconst C ic_2 dX12_grow_40 ?_
  refine jr_iadd C dX12_grow_41 ?_
  refine jr_bind (fun q8 e9 => ?_)
  refine jr_callVI C FX_10 km_X12_454 oS_0.1 oS_0.2 (rk hR rfl) (c_Mo_shade (gl G) (v1 + 2) s e9) rfl rfl rfl (Nat.le_of_ble_eq_true rfl) dX12_grow_42 ?_
  refine jr_if_eq C (tgt := 60) dX12_grow_45 (by decide) (fun h10 => ?_) (fun h10 => ?_)
  · refine jo_pos h10 ?_
    exact t_Mo_grow_J60 G hR hL C  v1 v2 v3 s hr
  refine jo_neg h10 ?_
  refine jr_aload_n C 0 rfl rfl dX12_grow_48 ?_
  refine jr_iconst C ic_5 dX12_grow_49 ?_
  refine jr_aload_n C 0 rfl rfl dX12_grow_50 ?_
  refine jr_iload_n C 1 rfl rfl dX12_grow_51 ?_
  refine jr_iconst C ic_2 dX12_grow_52 ?_
  refine jr_iadd C dX12_grow_53 ?_
  refine jr_bind (fun q41 e42 => ?_)
  refine jr_callVI C FX_10 km_X12_457 oS_0.1 oS_0.2 (rk hR rfl) (c_Mo_origin (gl G) (v1 + 2) s e42) rfl rfl rfl (Nat.le_of_ble_eq_true rfl) dX12_grow_54 ?_
  refine jr_bind (fun q43 e44 => ?_)
  refine jr_callVV C FX_10 km_X12_460 oS_0.1 oS_0.2 (rk hR rfl) (c_Mo_told (gl G) 5 q41 s e44) rfl rfl rfl (Nat.le_of_ble_eq_true rfl) dX12_grow_57 ?_
  exact t_Mo_grow_J60 G hR hL C  v1 v2 v3 q43 hr
noncomputable def f_Mo_grow (v1 : Int32) (s : St) : Option St :=
  (f_Mo_value (v1 + 1) s).bind fun q1 =>
  (f_Mo_value (v1 + 2) s).bind fun q3 =>
  (f_Mo_shade (v1 + 1) s).bind fun q5 =>
  if q5 = 0 then
  f_Mo_grow_J38 v1 q1 q3 s
  else
  (f_Mo_origin (v1 + 1) s).bind fun q45 =>
  (f_Mo_told 2 q45 s).bind fun q47 =>
  f_Mo_grow_J38 v1 q1 q3 q47
set_option maxHeartbeats 4000000 in
set_option maxRecDepth 100000 in
theorem t_Mo_grow (G : GG) (hR : gR G = rmx 3 68) (hL : gL G = 10) (C : Cx SM G cX12_grow RX12) {Acc : St → Prop}  (v1 : Int32) (s : St) (hr : ∀ v : St, Acc v → RtV SM G cX12_grow v) : JJ SM G Acc (f_Mo_grow v1 s) 0 [(0, .ref (ad G 0)), (1, .int v1)] [] s := by
  unfold f_Mo_grow
  refine jr_aload_n C 0 rfl rfl dX12_grow_0 ?_
  refine jr_iload_n C 1 rfl rfl dX12_grow_1 ?_
  refine jr_iconst C ic_1 dX12_grow_2 ?_
  refine jr_iadd C dX12_grow_3 ?_
  refine jr_bind (fun q1 e2 => ?_)
  refine jr_callVI C FX_10 km_X12_451 oS_0.1 oS_0.2 (rk hR rfl) (c_Mo_value (gl G) (v1 + 1) s e2) rfl rfl rfl (Nat.le_of_ble_eq_true rfl) dX12_grow_4 ?_
  refine jr_istore_n C (lv' := [(2, .int q1), (0, .ref (ad G 0)), (1, .int v1)]) (ltL hL rfl) rfl rfl dX12_grow_7 ?_
  refine jr_aload_n C 1 rfl rfl dX12_grow_8 ?_
  refine jr_iload_n C 2 rfl rfl dX12_grow_9 ?_
  refine jr_iconst C ic_2 dX12_grow_10 ?_
  refine jr_iadd C dX12_grow_11 ?_
  refine jr_bind (fun q3 e4 => ?_)
  refine jr_callVI C FX_10 km_X12_451 oS_0.1 oS_0.2 (rk hR rfl) (c_Mo_value (gl G) (v1 + 2) s e4) rfl rfl rfl (Nat.le_of_ble_eq_true rfl) dX12_grow_12 ?_
  refine jr_istore_n C (lv' := [(3, .int q3), (2, .int q1), (0, .ref (ad G 0)), (1, .int v1)]) (ltL hL rfl) rfl rfl dX12_grow_15 ?_
  refine jr_aload_n C 2 rfl rfl dX12_grow_16 ?_
  refine jr_iload_n C 3 rfl rfl dX12_grow_17 ?_
  refine jr_iconst C ic_1 dX12_grow_18 ?_
  refine jr_iadd C dX12_grow_19 ?_
  refine jr_bind (fun q5 e6 => ?_)
  refine jr_callVI C FX_10 km_X12_454 oS_0.1 oS_0.2 (rk hR rfl) (c_Mo_shade (gl G) (v1 + 1) s e6) rfl rfl rfl (Nat.le_of_ble_eq_true rfl) dX12_grow_20 ?_
  refine jr_if_eq C (tgt := 38) dX12_grow_23 (by decide) (fun h7 => ?_) (fun h7 => ?_)
  · refine jo_pos h7 ?_
    refine jr_lv [2, 3, 1, 0] rfl ?_
    exact t_Mo_grow_J38 G hR hL C  v1 q1 q3 s hr
  refine jo_neg h7 ?_
  refine jr_aload_n C 2 rfl rfl dX12_grow_26 ?_
  refine jr_iconst C ic_2 dX12_grow_27 ?_
  refine jr_aload_n C 2 rfl rfl dX12_grow_28 ?_
  refine jr_iload_n C 3 rfl rfl dX12_grow_29 ?_
  refine jr_iconst C ic_1 dX12_grow_30 ?_
  refine jr_iadd C dX12_grow_31 ?_
  refine jr_bind (fun q45 e46 => ?_)
  refine jr_callVI C FX_10 km_X12_457 oS_0.1 oS_0.2 (rk hR rfl) (c_Mo_origin (gl G) (v1 + 1) s e46) rfl rfl rfl (Nat.le_of_ble_eq_true rfl) dX12_grow_32 ?_
  refine jr_bind (fun q47 e48 => ?_)
  refine jr_callVV C FX_10 km_X12_460 oS_0.1 oS_0.2 (rk hR rfl) (c_Mo_told (gl G) 2 q45 s e48) rfl rfl rfl (Nat.le_of_ble_eq_true rfl) dX12_grow_35 ?_
  refine jr_lv [2, 3, 1, 0] rfl ?_
  exact t_Mo_grow_J38 G hR hL C  v1 q1 q3 q47 hr
set_option maxRecDepth 100000 in
theorem c_Mo_grow (l : Launch)  (v1 : Int32) (s : St) {q : St} (h : f_Mo_grow v1 s = some q) : CT SM l yX12_grow cX12_grow 10 none 3 68 (fun a => [.ref (a 0), .int v1]) s q (fun _ => none) :=
  ct_V okX_M (by decide) (fun _ => Nat.le_of_ble_eq_true rfl) (fun G hl hR hL C hr => t_Mo_grow G hR hL C (Acc := fun v => v = q)  v1 s (fun v hv => by rw [hv]; exact hr) ⟨_, h, rfl⟩)
