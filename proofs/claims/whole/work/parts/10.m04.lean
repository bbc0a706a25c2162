noncomputable def f_Mo_load_J101_1 (v1 : Int32) (v2 : Int32) (v3 : Int32) (v4 : Int32) (v5 : Int32) (v6 : Int32) (v7 : Int32) (v8 : Int32) (s : St) : Option ((Int32 × Int32 × Int32 × Int32) ⊕ (Int32 × Int32 × Int32 × Int32)) :=
  some (.inl (v5, v6, v7, (v8 + (-1))))
set_option maxHeartbeats 4000000 in
set_option maxRecDepth 100000 in
theorem t_Mo_load_J101_1 (G : GG) (hR : gR G = rmx 3 68) (hL : gL G = 10) (C : Cx SM G cX12_load RX12) {Acc : ((Int32 × Int32 × Int32 × Int32) ⊕ (Int32 × Int32 × Int32 × Int32)) → Prop}  (v1 : Int32) (v2 : Int32) (v3 : Int32) (v4 : Int32) (v5 : Int32) (v6 : Int32) (v7 : Int32) (v8 : Int32) (s : St) (hb1 : ∀ (a5 : Int32) (a6 : Int32) (a7 : Int32) (a8 : Int32), Acc (.inl (a5, a6, a7, a8)) → KK SM G 32 [(0, .ref (ad G 0)), (1, .int v1), (2, .int v2), (3, .int v3), (4, .int v4), (5, .int a5), (6, .int a6), (7, .int a7), (8, .int a8)] [] s) (hx1 : ∀ (a5 : Int32) (a6 : Int32) (a7 : Int32) (a8 : Int32), Acc (.inr (a5, a6, a7, a8)) → KK SM G 107 [(0, .ref (ad G 0)), (1, .int v1), (2, .int v2), (3, .int v3), (4, .int v4), (5, .int a5), (6, .int a6), (7, .int a7), (8, .int a8)] [] s) : JJ SM G Acc (f_Mo_load_J101_1 v1 v2 v3 v4 v5 v6 v7 v8 s) 101 [(0, .ref (ad G 0)), (1, .int v1), (2, .int v2), (3, .int v3), (4, .int v4), (5, .int v5), (6, .int v6), (7, .int v7), (8, .int v8)] [] s := by
  unfold f_Mo_load_J101_1
  refine jr_iinc C 8 rfl ii_m1 (lv' := [(8, .int (v8 + (-1))), (0, .ref (ad G 0)), (1, .int v1), (2, .int v2), (3, .int v3), (4, .int v4), (5, .int v5), (6, .int v6), (7, .int v7)]) (ltL hL rfl) rfl dX12_load_101 ?_
  refine jr_goto C (tgt := 32) dX12_load_104 (by decide) ?_
  refine jr_lv [1, 2, 3, 4, 5, 6, 7, 8, 0] rfl ?_
  exact jr_end (fun h => hb1 v5 v6 v7 (v8 + (-1)) h)
noncomputable def f_Mo_load_L32 (v1 : Int32) (v2 : Int32) (v3 : Int32) (v4 : Int32) (v5 : Int32) (v6 : Int32) (v7 : Int32) (v8 : Int32) (s : St) : Option ((Int32 × Int32 × Int32 × Int32) ⊕ (Int32 × Int32 × Int32 × Int32)) :=
  if v8 < 0 then
  some (.inr (v5, v6, v7, v8))
  else
  lt (((4096 * (s.1 0 28)) + v2) + v8) fun x6 =>
  gd x6 8192 <|
  lt ((v5 <<< (8 &&& 31)) ||| (s.1 16 (x6 : Int32).toNatClampNeg)) fun x7 =>
  gd x6 8192 <|
  lt ((v6 <<< (8 &&& 31)) ||| (s.1 17 (x6 : Int32).toNatClampNeg)) fun x8 =>
  gd x6 8192 <|
  if (s.1 17 (x6 : Int32).toNatClampNeg) = 0 then
  f_Mo_load_J101_1 v1 v2 v3 v4 x7 x8 v7 v8 s
  else
  gd x6 8192 <|
  lt (s.1 18 (x6 : Int32).toNatClampNeg) fun x10 =>
  f_Mo_load_J101_1 v1 v2 v3 v4 x7 x8 x10 v8 s
set_option maxHeartbeats 4000000 in
set_option maxRecDepth 100000 in
theorem t_Mo_load_L32 (G : GG) (hR : gR G = rmx 3 68) (hL : gL G = 10) (C : Cx SM G cX12_load RX12) {Acc : ((Int32 × Int32 × Int32 × Int32) ⊕ (Int32 × Int32 × Int32 × Int32)) → Prop}  (v1 : Int32) (v2 : Int32) (v3 : Int32) (v4 : Int32) (v5 : Int32) (v6 : Int32) (v7 : Int32) (v8 : Int32) (s : St) (hb1 : ∀ (a5 : Int32) (a6 : Int32) (a7 : Int32) (a8 : Int32), Acc (.inl (a5, a6, a7, a8)) → KK SM G 32 [(0, .ref (ad G 0)), (1, .int v1), (2, .int v2), (3, .int v3), (4, .int v4), (5, .int a5), (6, .int a6), (7, .int a7), (8, .int a8)] [] s) (hx1 : ∀ (a5 : Int32) (a6 : Int32) (a7 : Int32) (a8 : Int32), Acc (.inr (a5, a6, a7, a8)) → KK SM G 107 [(0, .ref (ad G 0)), (1, .int v1), (2, .int v2), (3, .int v3), (4, .int v4), (5, .int a5), (6, .int a6), (7, .int a7), (8, .int a8)] [] s) : JJ SM G Acc (f_Mo_load_L32 v1 v2 v3 v4 v5 v6 v7 v8 s) 32 [(0, .ref (ad G 0)), (1, .int v1), (2, .int v2), (3, .int v3), (4, .int v4), (5, .int v5), (6, .int v6), (7, .int v7), (8, .int v8)] [] s := by
  unfold f_Mo_load_L32
  refine jr_iload C 8 rfl dX12_load_32 ?_
  refine jr_if_lt C (tgt := 107) dX12_load_34 (by decide) (fun h5 => ?_) (fun h5 => ?_)
  · refine jo_pos h5 ?_
    exact jr_end (fun h => hx1 v5 v6 v7 v8 h)
  refine jo_neg h5 ?_
  refine jr_sipush C sp_4096 dX12_load_37 ?_
  refine jr_aload_n C 0 rfl rfl dX12_load_40 ?_
  refine jr_getI C FX_10 28 oS_0.1 oS_0.2 ff_10_28.1 ff_10_28.2 fl_X12_394 dX12_load_41 ?_
  refine jr_imul C dX12_load_44 ?_
  refine jr_iload_n C 2 rfl rfl dX12_load_45 ?_
  refine jr_iadd C dX12_load_46 ?_
  refine jr_iload C 8 rfl dX12_load_47 ?_
  refine jr_iadd C dX12_load_49 ?_
  refine jr_ltI (fun x6 => ?_)
  refine jr_istore C (lv' := [(9, .int x6), (0, .ref (ad G 0)), (1, .int v1), (2, .int v2), (3, .int v3), (4, .int v4), (5, .int v5), (6, .int v6), (7, .int v7), (8, .int v8)]) (ltL hL rfl) rfl dX12_load_50 ?_
  refine jr_iload C 6 rfl dX12_load_52 ?_
  refine jr_bipush C bp_8 dX12_load_54 ?_
  refine jr_ishl C dX12_load_56 ?_
  refine jr_aload_n C 1 rfl rfl dX12_load_57 ?_
  refine jr_getR C FX_10 33 oS_0.1 oS_0.2 ff_10_33.1 ff_10_33.2 rfl fl_X12_64 dX12_load_58 ?_
  refine jr_iload C 0 rfl dX12_load_61 ?_
  refine jr_iald C oS_16.1 oS_16.2.1 oS_16.2.2 dX12_load_63 ?_
  refine jr_ior C dX12_load_64 ?_
  refine jr_ltI (fun x7 => ?_)
  refine jr_istore C (lv' := [(5, .int x7), (9, .int x6), (0, .ref (ad G 0)), (1, .int v1), (2, .int v2), (3, .int v3), (4, .int v4), (6, .int v6), (7, .int v7), (8, .int v8)]) (ltL hL rfl) rfl dX12_load_65 ?_
  refine jr_iload C 7 rfl dX12_load_67 ?_
  refine jr_bipush C bp_8 dX12_load_69 ?_
  refine jr_ishl C dX12_load_71 ?_
  refine jr_aload_n C 2 rfl rfl dX12_load_72 ?_
  refine jr_getR C FX_10 34 oS_0.1 oS_0.2 ff_10_34.1 ff_10_34.2 rfl fl_X12_67 dX12_load_73 ?_
  refine jr_iload C 1 rfl dX12_load_76 ?_
  refine jr_iald C oS_17.1 oS_17.2.1 oS_17.2.2 dX12_load_78 ?_
  refine jr_ior C dX12_load_79 ?_
  refine jr_ltI (fun x8 => ?_)
  refine jr_istore C (lv' := [(6, .int x8), (5, .int x7), (9, .int x6), (0, .ref (ad G 0)), (1, .int v1), (2, .int v2), (3, .int v3), (4, .int v4), (7, .int v7), (8, .int v8)]) (ltL hL rfl) rfl dX12_load_80 ?_
  refine jr_aload_n C 3 rfl rfl dX12_load_82 ?_
  refine jr_getR C FX_10 34 oS_0.1 oS_0.2 ff_10_34.1 ff_10_34.2 rfl fl_X12_67 dX12_load_83 ?_
  refine jr_iload C 2 rfl dX12_load_86 ?_
  refine jr_iald C oS_17.1 oS_17.2.1 oS_17.2.2 dX12_load_88 ?_
  refine jr_if_eq C (tgt := 101) dX12_load_89 (by decide) (fun h9 => ?_) (fun h9 => ?_)
  · refine jo_pos h9 ?_
    refine jr_lv [3, 4, 5, 6, 7, 1, 0, 8, 9] rfl ?_
    exact t_Mo_load_J101_1 G hR hL C  v1 v2 v3 v4 x7 x8 v7 v8 s hb1 hx1
  refine jo_neg h9 ?_
  refine jr_aload_n C 3 rfl rfl dX12_load_92 ?_
  refine jr_getR C FX_10 35 oS_0.1 oS_0.2 ff_10_35.1 ff_10_35.2 rfl fl_X12_70 dX12_load_93 ?_
  refine jr_iload C 2 rfl dX12_load_96 ?_
  refine jr_iald C oS_18.1 oS_18.2.1 oS_18.2.2 dX12_load_98 ?_
  refine jr_ltI (fun x10 => ?_)
  refine jr_istore C (lv' := [(7, .int x10), (6, .int x8), (5, .int x7), (9, .int x6), (0, .ref (ad G 0)), (1, .int v1), (2, .int v2), (3, .int v3), (4, .int v4), (8, .int v8)]) (ltL hL rfl) rfl dX12_load_99 ?_
  refine jr_lv [4, 5, 6, 7, 8, 2, 1, 0, 9] rfl ?_
  exact t_Mo_load_J101_1 G hR hL C  v1 v2 v3 v4 x7 x8 x10 v8 s hb1 hx1
noncomputable def f_Mo_load_J144 (v1 : Int32) (v5 : Int32) (v6 : Int32) (v7 : Int32) (s : St) : Option St :=
  (f_Mo_give v1 v5 v6 v7 s).bind fun q13 =>
  some q13
set_option maxHeartbeats 4000000 in
set_option maxRecDepth 100000 in
theorem t_Mo_load_J144 (G : GG) (hR : gR G = rmx 3 68) (hL : gL G = 10) (C : Cx SM G cX12_load RX12) {Acc : St → Prop}  (v1 : Int32) (v5 : Int32) (v6 : Int32) (v7 : Int32) (s : St) (hr : ∀ v : St, Acc v → RtV SM G cX12_load v) : JJ SM G Acc (f_Mo_load_J144 v1 v5 v6 v7 s) 144 [(0, .ref (ad G 0)), (1, .int v1), (5, .int v5), (6, .int v6), (7, .int v7)] [] s := by
  unfold f_Mo_load_J144
  refine jr_aload_n C 0 rfl rfl dX12_load_144 ?_
  refine jr_iload_n C 1 rfl rfl dX12_load_145 ?_
  refine jr_iload C 2 rfl dX12_load_146 ?_
  refine jr_iload C 3 rfl dX12_load_148 ?_
  refine jr_iload C 4 rfl dX12_load_150 ?_
  refine jr_bind (fun q13 e14 => ?_)
  refine jr_callVV C FX_10 km_X12_473 oS_0.1 oS_0.2 (rk hR rfl) (c_Mo_give (gl G) v1 v5 v6 v7 s e14) rfl rfl rfl (Nat.le_of_ble_eq_true rfl) dX12_load_152 ?_
  exact jr_end (fun h => hr q13 h _ _ dX12_load_155)
noncomputable def f_Mo_load_J142 (v1 : Int32) (v5 : Int32) (v7 : Int32) (w0 : Int32) (s : St) : Option St :=
  f_Mo_load_J144 v1 v5 w0 v7 s
set_option maxHeartbeats 4000000 in
set_option maxRecDepth 100000 in
theorem t_Mo_load_J142 (G : GG) (hR : gR G = rmx 3 68) (hL : gL G = 10) (C : Cx SM G cX12_load RX12) {Acc : St → Prop}  (v1 : Int32) (v5 : Int32) (v7 : Int32) (w0 : Int32) (s : St) (hr : ∀ v : St, Acc v → RtV SM G cX12_load v) : JJ SM G Acc (f_Mo_load_J142 v1 v5 v7 w0 s) 142 [(0, .ref (ad G 0)), (1, .int v1), (5, .int v5), (7, .int v7)] [.int w0] s := by
  unfold f_Mo_load_J142
  refine jr_istore C (lv' := [(6, .int w0), (0, .ref (ad G 0)), (1, .int v1), (5, .int v5), (7, .int v7)]) (ltL hL rfl) rfl dX12_load_142 ?_
  refine jr_lv [1, 2, 3, 0, 4] rfl ?_
  exact t_Mo_load_J144 G hR hL C  v1 v5 w0 v7 s hr
noncomputable def f_Mo_load_J126 (v1 : Int32) (v3 : Int32) (v6 : Int32) (v7 : Int32) (w0 : Int32) (s : St) : Option St :=
  if v3 = 1 then
  f_Mo_load_J142 v1 w0 v7 ((v6 : Int32).toInt8.toInt32) s
  else
  f_Mo_load_J142 v1 w0 v7 ((v6 : Int32).toInt16.toInt32) s
set_option maxHeartbeats 4000000 in
set_option maxRecDepth 100000 in
theorem t_Mo_load_J126 (G : GG) (hR : gR G = rmx 3 68) (hL : gL G = 10) (C : Cx SM G cX12_load RX12) {Acc : St → Prop}  (v1 : Int32) (v3 : Int32) (v6 : Int32) (v7 : Int32) (w0 : Int32) (s : St) (hr : ∀ v : St, Acc v → RtV SM G cX12_load v) : JJ SM G Acc (f_Mo_load_J126 v1 v3 v6 v7 w0 s) 126 [(0, .ref (ad G 0)), (1, .int v1), (3, .int v3), (6, .int v6), (7, .int v7)] [.int w0] s := by
  unfold f_Mo_load_J126
  refine jr_istore C (lv' := [(5, .int w0), (0, .ref (ad G 0)), (1, .int v1), (3, .int v3), (6, .int v6), (7, .int v7)]) (ltL hL rfl) rfl dX12_load_126 ?_
  refine jr_iload_n C 3 rfl rfl dX12_load_128 ?_
  refine jr_iconst C ic_1 dX12_load_129 ?_
  refine jr_icmp_ne C (tgt := 139) dX12_load_130 (by decide) (fun h16 => ?_) (fun h16 => ?_)
  · refine jo_neg h16 ?_
    refine jr_iload C 4 rfl dX12_load_139 ?_
    refine jr_i2s C dX12_load_141 ?_
    refine jr_lv [1, 2, 0, 5] rfl ?_
    exact t_Mo_load_J142 G hR hL C  v1 w0 v7 ((v6 : Int32).toInt16.toInt32) s hr
  refine jo_pos h16 ?_
  refine jr_iload C 4 rfl dX12_load_133 ?_
  refine jr_i2b C dX12_load_135 ?_
  refine jr_goto C (tgt := 142) dX12_load_136 (by decide) ?_
  refine jr_lv [1, 2, 0, 5] rfl ?_
  exact t_Mo_load_J142 G hR hL C  v1 w0 v7 ((v6 : Int32).toInt8.toInt32) s hr
noncomputable def f_Mo_load (v1 : Int32) (v2 : Int32) (v3 : Int32) (v4 : Int32) (s : St) : Option St :=
  (f_Mo_areThere v2 v3 s).bind fun q1 =>
  if q1.1 = 0 then
  ((f_Mo_give v1 0 0 0 (q1.2)).bind fun q17 =>
  some q17)
  else
  lt (v3 - 1) fun x4 =>
  (wh (fun a : (Int32 × Int32 × Int32 × Int32) => f_Mo_load_L32 v1 v2 v3 v4 a.1 a.2.1 a.2.2.1 a.2.2.2 (q1.2)) (0, 0, 0, x4)).bind (fun b11 =>
  if v4 = 0 then
  f_Mo_load_J144 v1 (b11.1) (b11.2.1) (b11.2.2.1) (q1.2)
  else
  if v3 = 1 then
  f_Mo_load_J126 v1 v3 (b11.2.1) (b11.2.2.1) ((b11.1 : Int32).toInt8.toInt32) (q1.2)
  else
  f_Mo_load_J126 v1 v3 (b11.2.1) (b11.2.2.1) ((b11.1 : Int32).toInt16.toInt32) (q1.2))
set_option maxHeartbeats 4000000 in
set_option maxRecDepth 100000 in
theorem t_Mo_load (G : GG) (hR : gR G = rmx 3 68) (hL : gL G = 10) (C : Cx SM G cX12_load RX12) {Acc : St → Prop}  (v1 : Int32) (v2 : Int32) (v3 : Int32) (v4 : Int32) (s : St) (hr : ∀ v : St, Acc v → RtV SM G cX12_load v) : JJ SM G Acc (f_Mo_load v1 v2 v3 v4 s) 0 [(0, .ref (ad G 0)), (1, .int v1), (2, .int v2), (3, .int v3), (4, .int v4)] [] s := by
  unfold f_Mo_load
  refine jr_aload_n C 0 rfl rfl dX12_load_0 ?_
  refine jr_iload_n C 2 rfl rfl dX12_load_1 ?_
  refine jr_iload_n C 3 rfl rfl dX12_load_2 ?_
  refine jr_bind (fun q1 e2 => ?_)
  refine jr_callVI C FX_10 km_X12_486 oS_0.1 oS_0.2 (rk hR rfl) (c_Mo_areThere (gl G) v2 v3 s e2) rfl rfl rfl (Nat.le_of_ble_eq_true rfl) dX12_load_3 ?_
  refine jr_if_ne C (tgt := 18) dX12_load_6 (by decide) (fun h3 => ?_) (fun h3 => ?_)
  · refine jo_neg h3 ?_
    refine jr_iconst C ic_0 dX12_load_18 ?_
    refine jr_istore C (lv' := [(5, .int 0), (0, .ref (ad G 0)), (1, .int v1), (2, .int v2), (3, .int v3), (4, .int v4)]) (ltL hL rfl) rfl dX12_load_19 ?_
    refine jr_iconst C ic_0 dX12_load_21 ?_
    refine jr_istore C (lv' := [(6, .int 0), (5, .int 0), (0, .ref (ad G 0)), (1, .int v1), (2, .int v2), (3, .int v3), (4, .int v4)]) (ltL hL rfl) rfl dX12_load_22 ?_
    refine jr_iconst C ic_0 dX12_load_24 ?_
    refine jr_istore C (lv' := [(7, .int 0), (6, .int 0), (5, .int 0), (0, .ref (ad G 0)), (1, .int v1), (2, .int v2), (3, .int v3), (4, .int v4)]) (ltL hL rfl) rfl dX12_load_25 ?_
    refine jr_iload_n C 6 rfl rfl dX12_load_27 ?_
    refine jr_iconst C ic_1 dX12_load_28 ?_
    refine jr_isub C dX12_load_29 ?_
    refine jr_ltI (fun x4 => ?_)
    refine jr_istore C (lv' := [(8, .int x4), (7, .int 0), (6, .int 0), (5, .int 0), (0, .ref (ad G 0)), (1, .int v1), (2, .int v2), (3, .int v3), (4, .int v4)]) (ltL hL rfl) rfl dX12_load_30 ?_
    refine jr_lv [4, 5, 6, 7, 8, 3, 2, 1, 0] rfl ?_
    refine jr_loopB (pc := 32) (pcx := 107) (f := fun a : (Int32 × Int32 × Int32 × Int32) => f_Mo_load_L32 v1 v2 v3 v4 a.1 a.2.1 a.2.2.1 a.2.2.2 (q1.2)) (fun a : (Int32 × Int32 × Int32 × Int32) => [(0, .ref (ad G 0)), (1, .int v1), (2, .int v2), (3, .int v3), (4, .int v4), (5, .int (a.1)), (6, .int (a.2.1)), (7, .int (a.2.2.1)), (8, .int (a.2.2.2))]) (fun a : (Int32 × Int32 × Int32 × Int32) => (q1.2)) (0, 0, 0, x4) (fun a => t_Mo_load_L32 G hR hL C  v1 v2 v3 v4 a.1 a.2.1 a.2.2.1 a.2.2.2 (q1.2) (fun _ _ _ _ h => h) (fun _ _ _ _ h => h)) (fun b11 => ?_)
    refine jr_iload C 4 rfl dX12_load_107 ?_
    refine jr_if_eq C (tgt := 144) dX12_load_109 (by decide) (fun h12 => ?_) (fun h12 => ?_)
    · refine jo_pos h12 ?_
      refine jr_lv [0, 1, 5, 6, 7] rfl ?_
      exact t_Mo_load_J144 G hR hL C  v1 (b11.1) (b11.2.1) (b11.2.2.1) (q1.2) hr
    refine jo_neg h12 ?_
    refine jr_iload_n C 3 rfl rfl dX12_load_112 ?_
    refine jr_iconst C ic_1 dX12_load_113 ?_
    refine jr_icmp_ne C (tgt := 123) dX12_load_114 (by decide) (fun h15 => ?_) (fun h15 => ?_)
    · refine jo_neg h15 ?_
      refine jr_iload C 5 rfl dX12_load_123 ?_
      refine jr_i2s C dX12_load_125 ?_
      refine jr_lv [0, 1, 3, 6, 7] rfl ?_
      exact t_Mo_load_J126 G hR hL C  v1 v3 (b11.2.1) (b11.2.2.1) ((b11.1 : Int32).toInt16.toInt32) (q1.2) hr
    refine jo_pos h15 ?_
    refine jr_iload C 5 rfl dX12_load_117 ?_
    refine jr_i2b C dX12_load_119 ?_
    refine jr_goto C (tgt := 126) dX12_load_120 (by decide) ?_
    refine jr_lv [0, 1, 3, 6, 7] rfl ?_
    exact t_Mo_load_J126 G hR hL C  v1 v3 (b11.2.1) (b11.2.2.1) ((b11.1 : Int32).toInt8.toInt32) (q1.2) hr
  refine jo_pos h3 ?_
  refine jr_aload_n C 0 rfl rfl dX12_load_9 ?_
  refine jr_iload_n C 1 rfl rfl dX12_load_10 ?_
  refine jr_iconst C ic_0 dX12_load_11 ?_
  refine jr_iconst C ic_0 dX12_load_12 ?_
  refine jr_iconst C ic_0 dX12_load_13 ?_
  refine jr_bind (fun q17 e18 => ?_)
  refine jr_callVV C FX_10 km_X12_473 oS_0.1 oS_0.2 (rk hR rfl) (c_Mo_give (gl G) v1 0 0 0 (q1.2) e18) rfl rfl rfl (Nat.le_of_ble_eq_true rfl) dX12_load_14 ?_
  exact jr_end (fun h => hr q17 h _ _ dX12_load_17)
set_option maxRecDepth 100000 in
theorem c_Mo_load (l : Launch)  (v1 : Int32) (v2 : Int32) (v3 : Int32) (v4 : Int32) (s : St) {q : St} (h : f_Mo_load v1 v2 v3 v4 s = some q) : CT SM l yX12_load cX12_load 10 none 3 68 (fun a => [.ref (a 0), .int v1, .int v2, .int v3, .int v4]) s q (fun _ => none) :=
  ct_V okX_M (by decide) (fun _ => Nat.le_of_ble_eq_true rfl) (fun G hl hR hL C hr => t_Mo_load G hR hL C (Acc := fun v => v = q)  v1 v2 v3 v4 s (fun v hv => by rw [hv]; exact hr) ⟨_, h, rfl⟩)
noncomputable def f_Mo_store_J93_1 (v1 : Int32) (v2 : Int32) (v3 : Int32) (v4 : Int32) (v5 : Int32) (v6 : Int32) (w0 : Int32) (w1 : Int32) (s : St) : Option ((Int32 × St) ⊕ (Int32 × St)) :=
  gd w1 8192 <|
  lt (uI s 18 (w1 : Int32).toNatClampNeg w0) fun s9 =>
  some (.inl ((v6 + 1), s9))
set_option maxHeartbeats 4000000 in
set_option maxRecDepth 100000 in
theorem t_Mo_store_J93_1 (G : GG) (hR : gR G = rmx 3 66) (hL : gL G = 8) (C : Cx SM G cX12_store RX12) {Acc : ((Int32 × St) ⊕ (Int32 × St)) → Prop}  (v1 : Int32) (v2 : Int32) (v3 : Int32) (v4 : Int32) (v5 : Int32) (v6 : Int32) (w0 : Int32) (w1 : Int32) (s : St) (hb1 : ∀ (a6 : Int32) (t : St), Acc (.inl (a6, t)) → KK SM G 13 [(0, .ref (ad G 0)), (1, .int v1), (2, .int v2), (3, .int v3), (4, .int v4), (5, .int v5), (6, .int a6)] [] t) (hx1 : ∀ (a6 : Int32) (t : St), Acc (.inr (a6, t)) → KK SM G 100 [(0, .ref (ad G 0)), (1, .int v1), (2, .int v2), (3, .int v3), (4, .int v4), (5, .int v5), (6, .int a6)] [] t) : JJ SM G Acc (f_Mo_store_J93_1 v1 v2 v3 v4 v5 v6 w0 w1 s) 93 [(0, .ref (ad G 0)), (1, .int v1), (2, .int v2), (3, .int v3), (4, .int v4), (5, .int v5), (6, .int v6)] [.int w0, .int w1, .ref (ad G 18)] s := by
  unfold f_Mo_store_J93_1
  refine jr_iast C oS_18.1 oS_18.2.1 oS_18.2.2 dX12_store_93 (jr_ltS fun s9 => ?_)
  refine jr_iinc C 6 rfl ii_1 (lv' := [(6, .int (v6 + 1)), (0, .ref (ad G 0)), (1, .int v1), (2, .int v2), (3, .int v3), (4, .int v4), (5, .int v5)]) (ltL hL rfl) rfl dX12_store_94 ?_
  refine jr_goto C (tgt := 13) dX12_store_97 (by decide) ?_
  refine jr_lv [1, 2, 3, 4, 5, 6, 0] rfl ?_
  exact jr_end (fun h => hb1 (v6 + 1) s9 h)
noncomputable def f_Mo_store_L13 (v1 : Int32) (v2 : Int32) (v3 : Int32) (v4 : Int32) (v5 : Int32) (v6 : Int32) (s : St) : Option ((Int32 × St) ⊕ (Int32 × St)) :=
  if v2 ≤ v6 then
  some (.inr (v6, s))
  else
  lt (((4096 * (s.1 0 28)) + v1) + v6) fun x5 =>
  gd x5 8192 <|
  lt (uI s 16 (x5 : Int32).toNatClampNeg ((v3 >>> ((8 * v6) &&& 31)) &&& 255)) fun s6 =>
  gd x5 8192 <|
  lt (uI s6 17 (x5 : Int32).toNatClampNeg ((v4 >>> ((8 * v6) &&& 31)) &&& 255)) fun s7 =>
  gd x5 8192 <|
  if (s7.1 17 (x5 : Int32).toNatClampNeg) = 0 then
  f_Mo_store_J93_1 v1 v2 v3 v4 v5 v6 0 x5 s7
  else
  f_Mo_store_J93_1 v1 v2 v3 v4 v5 v6 v5 x5 s7
set_option maxHeartbeats 4000000 in
set_option maxRecDepth 100000 in
theorem t_Mo_store_L13 (G : GG) (hR : gR G = rmx 3 66) (hL : gL G = 8) (C : Cx SM G cX12_store RX12) {Acc : ((Int32 × St) ⊕ (Int32 × St)) → Prop}  (v1 : Int32) (v2 : Int32) (v3 : Int32) (v4 : Int32) (v5 : Int32) (v6 : Int32) (s : St) (hb1 : ∀ (a6 : Int32) (t : St), Acc (.inl (a6, t)) → KK SM G 13 [(0, .ref (ad G 0)), (1, .int v1), (2, .int v2), (3, .int v3), (4, .int v4), (5, .int v5), (6, .int a6)] [] t) (hx1 : ∀ (a6 : Int32) (t : St), Acc (.inr (a6, t)) → KK SM G 100 [(0, .ref (ad G 0)), (1, .int v1), (2, .int v2), (3, .int v3), (4, .int v4), (5, .int v5), (6, .int a6)] [] t) : JJ SM G Acc (f_Mo_store_L13 v1 v2 v3 v4 v5 v6 s) 13 [(0, .ref (ad G 0)), (1, .int v1), (2, .int v2), (3, .int v3), (4, .int v4), (5, .int v5), (6, .int v6)] [] s := by
  unfold f_Mo_store_L13
  refine jr_iload C 6 rfl dX12_store_13 ?_
  refine jr_iload_n C 2 rfl rfl dX12_store_15 ?_
  refine jr_icmp_ge C (tgt := 100) dX12_store_16 (by decide) (fun h4 => ?_) (fun h4 => ?_)
  · refine jo_pos h4 ?_
    exact jr_end (fun h => hx1 v6 s h)
  refine jo_neg h4 ?_
  refine jr_sipush C sp_4096 dX12_store_19 ?_
  refine jr_aload_n C 0 rfl rfl dX12_store_22 ?_
  refine jr_getI C FX_10 28 oS_0.1 oS_0.2 ff_10_28.1 ff_10_28.2 fl_X12_394 dX12_store_23 ?_
  refine jr_imul C dX12_store_26 ?_
  refine jr_iload_n C 1 rfl rfl dX12_store_27 ?_
  refine jr_iadd C dX12_store_28 ?_
  refine jr_iload C 6 rfl dX12_store_29 ?_
  refine jr_iadd C dX12_store_31 ?_
  refine jr_ltI (fun x5 => ?_)
  refine jr_istore C (lv' := [(7, .int x5), (0, .ref (ad G 0)), (1, .int v1), (2, .int v2), (3, .int v3), (4, .int v4), (5, .int v5), (6, .int v6)]) (ltL hL rfl) rfl dX12_store_32 ?_
  refine jr_aload_n C 1 rfl rfl dX12_store_34 ?_
  refine jr_getR C FX_10 33 oS_0.1 oS_0.2 ff_10_33.1 ff_10_33.2 rfl fl_X12_64 dX12_store_35 ?_
  refine jr_iload C 0 rfl dX12_store_38 ?_
  refine jr_iload_n C 4 rfl rfl dX12_store_40 ?_
  refine jr_bipush C bp_8 dX12_store_41 ?_
  refine jr_iload C 7 rfl dX12_store_43 ?_
  refine jr_imul C dX12_store_45 ?_
  refine jr_ishr C dX12_store_46 ?_
  refine jr_sipush C sp_255 dX12_store_47 ?_
  refine jr_iand C dX12_store_50 ?_
  refine jr_iast C oS_16.1 oS_16.2.1 oS_16.2.2 dX12_store_51 (jr_ltS fun s6 => ?_)
  refine jr_aload_n C 1 rfl rfl dX12_store_52 ?_
  refine jr_getR C FX_10 34 oS_0.1 oS_0.2 ff_10_34.1 ff_10_34.2 rfl fl_X12_67 dX12_store_53 ?_
  refine jr_iload C 0 rfl dX12_store_56 ?_
  refine jr_iload C 5 rfl dX12_store_58 ?_
  refine jr_bipush C bp_8 dX12_store_60 ?_
  refine jr_iload C 7 rfl dX12_store_62 ?_
  refine jr_imul C dX12_store_64 ?_
  refine jr_ishr C dX12_store_65 ?_
  refine jr_sipush C sp_255 dX12_store_66 ?_
  refine jr_iand C dX12_store_69 ?_
  refine jr_iast C oS_17.1 oS_17.2.1 oS_17.2.2 dX12_store_70 (jr_ltS fun s7 => ?_)
  refine jr_aload_n C 1 rfl rfl dX12_store_71 ?_
  refine jr_getR C FX_10 35 oS_0.1 oS_0.2 ff_10_35.1 ff_10_35.2 rfl fl_X12_70 dX12_store_72 ?_
  refine jr_iload C 0 rfl dX12_store_75 ?_
  refine jr_aload_n C 1 rfl rfl dX12_store_77 ?_
  refine jr_getR C FX_10 34 oS_0.1 oS_0.2 ff_10_34.1 ff_10_34.2 rfl fl_X12_67 dX12_store_78 ?_
  refine jr_iload C 0 rfl dX12_store_81 ?_
  refine jr_iald C oS_17.1 oS_17.2.1 oS_17.2.2 dX12_store_83 ?_
  refine jr_if_eq C (tgt := 92) dX12_store_84 (by decide) (fun h8 => ?_) (fun h8 => ?_)
  · refine jo_pos h8 ?_
    refine jr_iconst C ic_0 dX12_store_92 ?_
    refine jr_lv [1, 2, 3, 4, 5, 6, 7] rfl ?_
    exact t_Mo_store_J93_1 G hR hL C  v1 v2 v3 v4 v5 v6 0 x5 s7 hb1 hx1
  refine jo_neg h8 ?_
  refine jr_iload C 6 rfl dX12_store_87 ?_
  refine jr_goto C (tgt := 93) dX12_store_89 (by decide) ?_
  refine jr_lv [1, 2, 3, 4, 5, 6, 7] rfl ?_
  exact t_Mo_store_J93_1 G hR hL C  v1 v2 v3 v4 v5 v6 v5 x5 s7 hb1 hx1
noncomputable def f_Mo_store (v1 : Int32) (v2 : Int32) (v3 : Int32) (v4 : Int32) (v5 : Int32) (s : St) : Option St :=
  (f_Mo_areThere v1 v2 s).bind fun q1 =>
  if q1.1 = 0 then
  some (q1.2)
  else
  (wh (fun a : (Int32 × St) => f_Mo_store_L13 v1 v2 v3 v4 v5 a.1 a.2) (0, q1.2)).bind (fun b10 =>
  some (b10.2))
set_option maxHeartbeats 4000000 in
set_option maxRecDepth 100000 in
theorem t_Mo_store (G : GG) (hR : gR G = rmx 3 66) (hL : gL G = 8) (C : Cx SM G cX12_store RX12) {Acc : St → Prop}  (v1 : Int32) (v2 : Int32) (v3 : Int32) (v4 : Int32) (v5 : Int32) (s : St) (hr : ∀ v : St, Acc v → RtV SM G cX12_store v) : JJ SM G Acc (f_Mo_store v1 v2 v3 v4 v5 s) 0 [(0, .ref (ad G 0)), (1, .int v1), (2, .int v2), (3, .int v3), (4, .int v4), (5, .int v5)] [] s := by
  unfold f_Mo_store
  refine jr_aload_n C 0 rfl rfl dX12_store_0 ?_
  refine jr_iload_n C 1 rfl rfl dX12_store_1 ?_
  refine jr_iload_n C 2 rfl rfl dX12_store_2 ?_
  refine jr_bind (fun q1 e2 => ?_)
  refine jr_callVI C FX_10 km_X12_486 oS_0.1 oS_0.2 (rk hR rfl) (c_Mo_areThere (gl G) v1 v2 s e2) rfl rfl rfl (Nat.le_of_ble_eq_true rfl) dX12_store_3 ?_
  refine jr_if_ne C (tgt := 10) dX12_store_6 (by decide) (fun h3 => ?_) (fun h3 => ?_)
  · refine jo_neg h3 ?_
    refine jr_iconst C ic_0 dX12_store_10 ?_
    refine jr_istore C (lv' := [(6, .int 0), (0, .ref (ad G 0)), (1, .int v1), (2, .int v2), (3, .int v3), (4, .int v4), (5, .int v5)]) (ltL hL rfl) rfl dX12_store_11 ?_
    refine jr_lv [1, 2, 3, 4, 5, 6, 0] rfl ?_
    refine jr_loopB (pc := 13) (pcx := 100) (f := fun a : (Int32 × St) => f_Mo_store_L13 v1 v2 v3 v4 v5 a.1 a.2) (fun a : (Int32 × St) => [(0, .ref (ad G 0)), (1, .int v1), (2, .int v2), (3, .int v3), (4, .int v4), (5, .int v5), (6, .int (a.1))]) (fun a : (Int32 × St) => a.2) (0, q1.2) (fun a => t_Mo_store_L13 G hR hL C  v1 v2 v3 v4 v5 a.1 a.2 (fun _ _ h => h) (fun _ _ h => h)) (fun b10 => ?_)
    exact jr_end (fun h => hr (b10.2) h _ _ dX12_store_100)
  refine jo_pos h3 ?_
  exact jr_end (fun h => hr (q1.2) h _ _ dX12_store_9)
set_option maxRecDepth 100000 in
theorem c_Mo_store (l : Launch)  (v1 : Int32) (v2 : Int32) (v3 : Int32) (v4 : Int32) (v5 : Int32) (s : St) {q : St} (h : f_Mo_store v1 v2 v3 v4 v5 s = some q) : CT SM l yX12_store cX12_store 8 none 3 66 (fun a => [.ref (a 0), .int v1, .int v2, .int v3, .int v4, .int v5]) s q (fun _ => none) :=
  ct_V okX_M (by decide) (fun _ => Nat.le_of_ble_eq_true rfl) (fun G hl hR hL C hr => t_Mo_store G hR hL C (Acc := fun v => v = q)  v1 v2 v3 v4 v5 s (fun v hv => by rw [hv]; exact hr) ⟨_, h, rfl⟩)
noncomputable def f_Mo_reach_J119 (w0 : Int32) (w1 : Int32) (w2 : Int32) (w3 : Int32) (s : St) : Option St :=
  (f_Mo_load w3 w2 w1 w0 s).bind fun q18 =>
  some q18
set_option maxHeartbeats 4000000 in
set_option maxRecDepth 100000 in
theorem t_Mo_reach_J119 (G : GG) (hR : gR G = rmx 4 97) (hL : gL G = 5) (C : Cx SM G cX12_reach RX12) {Acc : St → Prop}  (w0 : Int32) (w1 : Int32) (w2 : Int32) (w3 : Int32) (s : St) (hr : ∀ v : St, Acc v → RtV SM G cX12_reach v) : JJ SM G Acc (f_Mo_reach_J119 w0 w1 w2 w3 s) 119 [] [.int w0, .int w1, .int w2, .int w3, .ref (ad G 0)] s := by
  unfold f_Mo_reach_J119
  refine jr_bind (fun q18 e19 => ?_)
  refine jr_callVV C FX_10 km_X12_489 oS_0.1 oS_0.2 (rk hR rfl) (c_Mo_load (gl G) w3 w2 w1 w0 s e19) rfl rfl rfl (Nat.le_of_ble_eq_true rfl) dX12_reach_119 ?_
  refine jr_goto C (tgt := 147) dX12_reach_122 (by decide) ?_
  exact jr_end (fun h => hr q18 h _ _ dX12_reach_147)
noncomputable def f_Mo_reach_J114 (w0 : Int32) (w1 : Int32) (w2 : Int32) (s : St) : Option St :=
  f_Mo_reach_J119 1 w0 w1 w2 s
set_option maxHeartbeats 4000000 in
set_option maxRecDepth 100000 in
theorem t_Mo_reach_J114 (G : GG) (hR : gR G = rmx 4 97) (hL : gL G = 5) (C : Cx SM G cX12_reach RX12) {Acc : St → Prop}  (w0 : Int32) (w1 : Int32) (w2 : Int32) (s : St) (hr : ∀ v : St, Acc v → RtV SM G cX12_reach v) : JJ SM G Acc (f_Mo_reach_J114 w0 w1 w2 s) 114 [] [.int w0, .int w1, .int w2, .ref (ad G 0)] s := by
  unfold f_Mo_reach_J114
  refine jr_iconst C ic_1 dX12_reach_114 ?_
  refine jr_goto C (tgt := 119) dX12_reach_115 (by decide) ?_
  exact t_Mo_reach_J119 G hR hL C  1 w0 w1 w2 s hr
noncomputable def f_Mo_reach_J84 (v1 : Int32) (v2 : Int32) (v3 : Int32) (w0 : Int32) (s : St) : Option St :=
  if 26 ≤ v1 then
  ((f_Mo_value v2 s).bind fun q9 =>
  (f_Mo_shade v2 s).bind fun q11 =>
  (f_Mo_origin v2 s).bind fun q13 =>
  (f_Mo_store v3 w0 q9 q11 q13 s).bind fun q15 =>
  some q15)
  else
  gd v2 1200 <|
  if v1 = 21 then
  f_Mo_reach_J114 w0 v3 (s.1 5 (v2 : Int32).toNatClampNeg) s
  else
  if v1 = 23 then
  f_Mo_reach_J114 w0 v3 (s.1 5 (v2 : Int32).toNatClampNeg) s
  else
  f_Mo_reach_J119 0 w0 v3 (s.1 5 (v2 : Int32).toNatClampNeg) s
set_option maxHeartbeats 4000000 in
set_option maxRecDepth 100000 in
theorem t_Mo_reach_J84 (G : GG) (hR : gR G = rmx 4 97) (hL : gL G = 5) (C : Cx SM G cX12_reach RX12) {Acc : St → Prop}  (v1 : Int32) (v2 : Int32) (v3 : Int32) (w0 : Int32) (s : St) (hr : ∀ v : St, Acc v → RtV SM G cX12_reach v) : JJ SM G Acc (f_Mo_reach_J84 v1 v2 v3 w0 s) 84 [(0, .ref (ad G 0)), (1, .int v1), (2, .int v2), (3, .int v3)] [.int w0] s := by
  unfold f_Mo_reach_J84
  refine jr_istore C (lv' := [(4, .int w0), (0, .ref (ad G 0)), (1, .int v1), (2, .int v2), (3, .int v3)]) (ltL hL rfl) rfl dX12_reach_84 ?_
  refine jr_iload_n C 2 rfl rfl dX12_reach_86 ?_
  refine jr_bipush C bp_26 dX12_reach_87 ?_
  refine jr_icmp_ge C (tgt := 125) dX12_reach_89 (by decide) (fun h8 => ?_) (fun h8 => ?_)
  · refine jo_pos h8 ?_
    refine jr_aload_n C 1 rfl rfl dX12_reach_125 ?_
    refine jr_iload_n C 4 rfl rfl dX12_reach_126 ?_
    refine jr_iload C 0 rfl dX12_reach_127 ?_
    refine jr_aload_n C 1 rfl rfl dX12_reach_129 ?_
    refine jr_iload_n C 3 rfl rfl dX12_reach_130 ?_
    refine jr_bind (fun q9 e10 => ?_)
    refine jr_callVI C FX_10 km_X12_451 oS_0.1 oS_0.2 (rk hR rfl) (c_Mo_value (gl G) v2 s e10) rfl rfl rfl (Nat.le_of_ble_eq_true rfl) dX12_reach_131 ?_
    refine jr_aload_n C 1 rfl rfl dX12_reach_134 ?_
    refine jr_iload_n C 3 rfl rfl dX12_reach_135 ?_
    refine jr_bind (fun q11 e12 => ?_)
    refine jr_callVI C FX_10 km_X12_454 oS_0.1 oS_0.2 (rk hR rfl) (c_Mo_shade (gl G) v2 s e12) rfl rfl rfl (Nat.le_of_ble_eq_true rfl) dX12_reach_136 ?_
    refine jr_aload_n C 1 rfl rfl dX12_reach_139 ?_
    refine jr_iload_n C 3 rfl rfl dX12_reach_140 ?_
    refine jr_bind (fun q13 e14 => ?_)
    refine jr_callVI C FX_10 km_X12_457 oS_0.1 oS_0.2 (rk hR rfl) (c_Mo_origin (gl G) v2 s e14) rfl rfl rfl (Nat.le_of_ble_eq_true rfl) dX12_reach_141 ?_
    refine jr_bind (fun q15 e16 => ?_)
    refine jr_callVV C FX_10 km_X12_493 oS_0.1 oS_0.2 (rk hR rfl) (c_Mo_store (gl G) v3 w0 q9 q11 q13 s e16) rfl rfl rfl (Nat.le_of_ble_eq_true rfl) dX12_reach_144 ?_
    exact jr_end (fun h => hr q15 h _ _ dX12_reach_147)
  refine jo_neg h8 ?_
  refine jr_aload_n C 1 rfl rfl dX12_reach_92 ?_
  refine jr_aload_n C 1 rfl rfl dX12_reach_93 ?_
  refine jr_getR C FX_10 6 oS_0.1 oS_0.2 ff_10_6.1 ff_10_6.2 rfl fl_X12_24 dX12_reach_94 ?_
  refine jr_iload_n C 3 rfl rfl dX12_reach_97 ?_
  refine jr_iald C oS_5.1 oS_5.2.1 oS_5.2.2 dX12_reach_98 ?_
  refine jr_iload_n C 4 rfl rfl dX12_reach_99 ?_
  refine jr_iload C 0 rfl dX12_reach_100 ?_
  refine jr_iload_n C 2 rfl rfl dX12_reach_102 ?_
  refine jr_bipush C bp_21 dX12_reach_103 ?_
  refine jr_icmp_eq C (tgt := 114) dX12_reach_105 (by decide) (fun h17 => ?_) (fun h17 => ?_)
  · refine jo_pos h17 ?_
    refine jr_lv [] rfl ?_
    exact t_Mo_reach_J114 G hR hL C  w0 v3 (s.1 5 (v2 : Int32).toNatClampNeg) s hr
  refine jo_neg h17 ?_
  refine jr_iload_n C 2 rfl rfl dX12_reach_108 ?_
  refine jr_bipush C bp_23 dX12_reach_109 ?_
  refine jr_icmp_ne C (tgt := 118) dX12_reach_111 (by decide) (fun h20 => ?_) (fun h20 => ?_)
  · refine jo_neg h20 ?_
    refine jr_iconst C ic_0 dX12_reach_118 ?_
    refine jr_lv [] rfl ?_
    exact t_Mo_reach_J119 G hR hL C  0 w0 v3 (s.1 5 (v2 : Int32).toNatClampNeg) s hr
  refine jo_pos h20 ?_
  refine jr_lv [] rfl ?_
  exact t_Mo_reach_J114 G hR hL C  w0 v3 (s.1 5 (v2 : Int32).toNatClampNeg) s hr
noncomputable def f_Mo_reach_J57 (v1 : Int32) (v2 : Int32) (v3 : Int32) (s : St) : Option St :=
  f_Mo_reach_J84 v1 v2 v3 1 s
set_option maxHeartbeats 4000000 in
set_option maxRecDepth 100000 in
theorem t_Mo_reach_J57 (G : GG) (hR : gR G = rmx 4 97) (hL : gL G = 5) (C : Cx SM G cX12_reach RX12) {Acc : St → Prop}  (v1 : Int32) (v2 : Int32) (v3 : Int32) (s : St) (hr : ∀ v : St, Acc v → RtV SM G cX12_reach v) : JJ SM G Acc (f_Mo_reach_J57 v1 v2 v3 s) 57 [(0, .ref (ad G 0)), (1, .int v1), (2, .int v2), (3, .int v3)] [] s := by
  unfold f_Mo_reach_J57
  refine jr_iconst C ic_1 dX12_reach_57 ?_
  refine jr_goto C (tgt := 84) dX12_reach_58 (by decide) ?_
  exact t_Mo_reach_J84 G hR hL C  v1 v2 v3 1 s hr
noncomputable def f_Mo_reach_J79 (v1 : Int32) (v2 : Int32) (v3 : Int32) (s : St) : Option St :=
  f_Mo_reach_J84 v1 v2 v3 2 s
set_option maxHeartbeats 4000000 in
set_option maxRecDepth 100000 in
theorem t_Mo_reach_J79 (G : GG) (hR : gR G = rmx 4 97) (hL : gL G = 5) (C : Cx SM G cX12_reach RX12) {Acc : St → Prop}  (v1 : Int32) (v2 : Int32) (v3 : Int32) (s : St) (hr : ∀ v : St, Acc v → RtV SM G cX12_reach v) : JJ SM G Acc (f_Mo_reach_J79 v1 v2 v3 s) 79 [(0, .ref (ad G 0)), (1, .int v1), (2, .int v2), (3, .int v3)] [] s := by
  unfold f_Mo_reach_J79
  refine jr_iconst C ic_2 dX12_reach_79 ?_
  refine jr_goto C (tgt := 84) dX12_reach_80 (by decide) ?_
  exact t_Mo_reach_J84 G hR hL C  v1 v2 v3 2 s hr
noncomputable def f_Mo_reach_J22 (v1 : Int32) (v2 : Int32) (s : St) : Option St :=
  (f_Mo_value (v2 + 1) s).bind fun q4 =>
  gd (v2 + 2) 1200 <|
  lt (q4 + (s.1 5 ((v2 + 2) : Int32).toNatClampNeg)) fun x6 =>
  if v1 = 21 then
  f_Mo_reach_J57 v1 v2 x6 s
  else
  if v1 = 22 then
  f_Mo_reach_J57 v1 v2 x6 s
  else
  if v1 = 26 then
  f_Mo_reach_J57 v1 v2 x6 s
  else
  if v1 = 23 then
  f_Mo_reach_J79 v1 v2 x6 s
  else
  if v1 = 24 then
  f_Mo_reach_J79 v1 v2 x6 s
  else
  if v1 = 27 then
  f_Mo_reach_J79 v1 v2 x6 s
  else
  f_Mo_reach_J84 v1 v2 x6 4 s
set_option maxHeartbeats 4000000 in
set_option maxRecDepth 100000 in
theorem t_Mo_reach_J22 (G : GG) (hR : gR G = rmx 4 97) (hL : gL G = 5) (C : Cx SM G cX12_reach RX12) {Acc : St → Prop}  (v1 : Int32) (v2 : Int32) (s : St) (hr : ∀ v : St, Acc v → RtV SM G cX12_reach v) : JJ SM G Acc (f_Mo_reach_J22 v1 v2 s) 22 [(0, .ref (ad G 0)), (1, .int v1), (2, .int v2)] [] s := by
  unfold f_Mo_reach_J22
  refine jr_aload_n C 0 rfl rfl dX12_reach_22 ?_
  refine jr_iload_n C 2 rfl rfl dX12_reach_23 ?_
  refine jr_iconst C ic_1 dX12_reach_24 ?_
  refine jr_iadd C dX12_reach_25 ?_
  refine jr_bind (fun q4 e5 => ?_)
  refine jr_callVI C FX_10 km_X12_451 oS_0.1 oS_0.2 (rk hR rfl) (c_Mo_value (gl G) (v2 + 1) s e5) rfl rfl rfl (Nat.le_of_ble_eq_true rfl) dX12_reach_26 ?_
  refine jr_aload_n C 0 rfl rfl dX12_reach_29 ?_
  refine jr_getR C FX_10 6 oS_0.1 oS_0.2 ff_10_6.1 ff_10_6.2 rfl fl_X12_24 dX12_reach_30 ?_
  refine jr_iload_n C 2 rfl rfl dX12_reach_33 ?_
  refine jr_iconst C ic_2 dX12_reach_34 ?_
  refine jr_iadd C dX12_reach_35 ?_
  refine jr_iald C oS_5.1 oS_5.2.1 oS_5.2.2 dX12_reach_36 ?_
  refine jr_iadd C dX12_reach_37 ?_
  refine jr_ltI (fun x6 => ?_)
  refine jr_istore_n C (lv' := [(3, .int x6), (0, .ref (ad G 0)), (1, .int v1), (2, .int v2)]) (ltL hL rfl) rfl rfl dX12_reach_38 ?_
  refine jr_iload_n C 2 rfl rfl dX12_reach_39 ?_
  refine jr_bipush C bp_21 dX12_reach_40 ?_
  refine jr_icmp_eq C (tgt := 57) dX12_reach_42 (by decide) (fun h7 => ?_) (fun h7 => ?_)
  · refine jo_pos h7 ?_
    refine jr_lv [1, 2, 3, 0] rfl ?_
    exact t_Mo_reach_J57 G hR hL C  v1 v2 x6 s hr
  refine jo_neg h7 ?_
  refine jr_iload_n C 2 rfl rfl dX12_reach_45 ?_
  refine jr_bipush C bp_22 dX12_reach_46 ?_
  refine jr_icmp_eq C (tgt := 57) dX12_reach_48 (by decide) (fun h21 => ?_) (fun h21 => ?_)
  · refine jo_pos h21 ?_
    refine jr_lv [1, 2, 3, 0] rfl ?_
    exact t_Mo_reach_J57 G hR hL C  v1 v2 x6 s hr
  refine jo_neg h21 ?_
  refine jr_iload_n C 2 rfl rfl dX12_reach_51 ?_
  refine jr_bipush C bp_26 dX12_reach_52 ?_
  refine jr_icmp_ne C (tgt := 61) dX12_reach_54 (by decide) (fun h22 => ?_) (fun h22 => ?_)
  · refine jo_neg h22 ?_
    refine jr_iload_n C 2 rfl rfl dX12_reach_61 ?_
    refine jr_bipush C bp_23 dX12_reach_62 ?_
    refine jr_icmp_eq C (tgt := 79) dX12_reach_64 (by decide) (fun h23 => ?_) (fun h23 => ?_)
    · refine jo_pos h23 ?_
      refine jr_lv [1, 2, 3, 0] rfl ?_
      exact t_Mo_reach_J79 G hR hL C  v1 v2 x6 s hr
    refine jo_neg h23 ?_
    refine jr_iload_n C 2 rfl rfl dX12_reach_67 ?_
    refine jr_bipush C bp_24 dX12_reach_68 ?_
    refine jr_icmp_eq C (tgt := 79) dX12_reach_70 (by decide) (fun h24 => ?_) (fun h24 => ?_)
    · refine jo_pos h24 ?_
      refine jr_lv [1, 2, 3, 0] rfl ?_
      exact t_Mo_reach_J79 G hR hL C  v1 v2 x6 s hr
    refine jo_neg h24 ?_
    refine jr_iload_n C 2 rfl rfl dX12_reach_73 ?_
    refine jr_bipush C bp_27 dX12_reach_74 ?_
    refine jr_icmp_ne C (tgt := 83) dX12_reach_76 (by decide) (fun h25 => ?_) (fun h25 => ?_)
    · refine jo_neg h25 ?_
      refine jr_iconst C ic_4 dX12_reach_83 ?_
      refine jr_lv [1, 2, 3, 0] rfl ?_
      exact t_Mo_reach_J84 G hR hL C  v1 v2 x6 4 s hr
    refine jo_pos h25 ?_
    refine jr_lv [1, 2, 3, 0] rfl ?_
    exact t_Mo_reach_J79 G hR hL C  v1 v2 x6 s hr
  refine jo_pos h22 ?_
  refine jr_lv [1, 2, 3, 0] rfl ?_
  exact t_Mo_reach_J57 G hR hL C  v1 v2 x6 s hr
noncomputable def f_Mo_reach (v1 : Int32) (v2 : Int32) (s : St) : Option St :=
  (f_Mo_shade (v2 + 1) s).bind fun q1 =>
  if q1 = 0 then
  f_Mo_reach_J22 v1 v2 s
  else
  (f_Mo_origin (v2 + 1) s).bind fun q26 =>
  (f_Mo_told 2 q26 s).bind fun q28 =>
  f_Mo_reach_J22 v1 v2 q28
set_option maxHeartbeats 4000000 in
set_option maxRecDepth 100000 in
theorem t_Mo_reach (G : GG) (hR : gR G = rmx 4 97) (hL : gL G = 5) (C : Cx SM G cX12_reach RX12) {Acc : St → Prop}  (v1 : Int32) (v2 : Int32) (s : St) (hr : ∀ v : St, Acc v → RtV SM G cX12_reach v) : JJ SM G Acc (f_Mo_reach v1 v2 s) 0 [(0, .ref (ad G 0)), (1, .int v1), (2, .int v2)] [] s := by
  unfold f_Mo_reach
  refine jr_aload_n C 0 rfl rfl dX12_reach_0 ?_
  refine jr_iload_n C 2 rfl rfl dX12_reach_1 ?_
  refine jr_iconst C ic_1 dX12_reach_2 ?_
  refine jr_iadd C dX12_reach_3 ?_
  refine jr_bind (fun q1 e2 => ?_)
  refine jr_callVI C FX_10 km_X12_454 oS_0.1 oS_0.2 (rk hR rfl) (c_Mo_shade (gl G) (v2 + 1) s e2) rfl rfl rfl (Nat.le_of_ble_eq_true rfl) dX12_reach_4 ?_
  refine jr_if_eq C (tgt := 22) dX12_reach_7 (by decide) (fun h3 => ?_) (fun h3 => ?_)
  · refine jo_pos h3 ?_
    exact t_Mo_reach_J22 G hR hL C  v1 v2 s hr
  refine jo_neg h3 ?_
  refine jr_aload_n C 0 rfl rfl dX12_reach_10 ?_
  refine jr_iconst C ic_2 dX12_reach_11 ?_
  refine jr_aload_n C 0 rfl rfl dX12_reach_12 ?_
  refine jr_iload_n C 2 rfl rfl dX12_reach_13 ?_
  refine jr_iconst C ic_1 dX12_reach_14 ?_
  refine jr_iadd C dX12_reach_15 ?_
  refine jr_bind (fun q26 e27 => ?_)
  refine jr_callVI C FX_10 km_X12_457 oS_0.1 oS_0.2 (rk hR rfl) (c_Mo_origin (gl G) (v2 + 1) s e27) rfl rfl rfl (Nat.le_of_ble_eq_true rfl) dX12_reach_16 ?_
  refine jr_bind (fun q28 e29 => ?_)
  refine jr_callVV C FX_10 km_X12_460 oS_0.1 oS_0.2 (rk hR rfl) (c_Mo_told (gl G) 2 q26 s e29) rfl rfl rfl (Nat.le_of_ble_eq_true rfl) dX12_reach_19 ?_
  exact t_Mo_reach_J22 G hR hL C  v1 v2 q28 hr
set_option maxRecDepth 100000 in
theorem c_Mo_reach (l : Launch)  (v1 : Int32) (v2 : Int32) (s : St) {q : St} (h : f_Mo_reach v1 v2 s = some q) : CT SM l yX12_reach cX12_reach 5 none 4 97 (fun a => [.ref (a 0), .int v1, .int v2]) s q (fun _ => none) :=
  ct_V okX_M (by decide) (fun _ => Nat.le_of_ble_eq_true rfl) (fun G hl hR hL C hr => t_Mo_reach G hR hL C (Acc := fun v => v = q)  v1 v2 s (fun v hv => by rw [hv]; exact hr) ⟨_, h, rfl⟩)
noncomputable def f_Mo_branch_J245 (v2 : Int32) (v8 : Int32) (w0 : Int32) (w1 : Int32) (w2 : Int32) (s : St) : Option St :=
  gd w2 2 <|
  lt (uI s 23 (w2 : Int32).toNatClampNeg (w1 + w0)) fun s21 =>
  if v8 = 0 then
  some s21
  else
  gd (v2 + 2) 1200 <|
  gd (s21.1 0 28) 2 <|
  lt (uI s21 20 ((s21.1 0 28) : Int32).toNatClampNeg (s21.1 5 ((v2 + 2) : Int32).toNatClampNeg)) fun s23 =>
  some s23
set_option maxHeartbeats 4000000 in
set_option maxRecDepth 100000 in
theorem t_Mo_branch_J245 (G : GG) (hR : gR G = rmx 2 48) (hL : gL G = 9) (C : Cx SM G cX12_branch RX12) {Acc : St → Prop}  (v2 : Int32) (v8 : Int32) (w0 : Int32) (w1 : Int32) (w2 : Int32) (s : St) (hr : ∀ v : St, Acc v → RtV SM G cX12_branch v) : JJ SM G Acc (f_Mo_branch_J245 v2 v8 w0 w1 w2 s) 245 [(0, .ref (ad G 0)), (2, .int v2), (8, .int v8)] [.int w0, .int w1, .int w2, .ref (ad G 23)] s := by
  unfold f_Mo_branch_J245
  refine jr_iadd C dX12_branch_245 ?_
  refine jr_iast C oS_23.1 oS_23.2.1 oS_23.2.2 dX12_branch_246 (jr_ltS fun s21 => ?_)
  refine jr_iload C 2 rfl dX12_branch_247 ?_
  refine jr_if_eq C (tgt := 269) dX12_branch_249 (by decide) (fun h22 => ?_) (fun h22 => ?_)
  · refine jo_pos h22 ?_
    exact jr_end (fun h => hr s21 h _ _ dX12_branch_269)
  refine jo_neg h22 ?_
  refine jr_aload_n C 0 rfl rfl dX12_branch_252 ?_
  refine jr_getR C FX_10 37 oS_0.1 oS_0.2 ff_10_37.1 ff_10_37.2 rfl fl_X12_76 dX12_branch_253 ?_
  refine jr_aload_n C 0 rfl rfl dX12_branch_256 ?_
  refine jr_getI C FX_10 28 oS_0.1 oS_0.2 ff_10_28.1 ff_10_28.2 fl_X12_394 dX12_branch_257 ?_
  refine jr_aload_n C 0 rfl rfl dX12_branch_260 ?_
  refine jr_getR C FX_10 6 oS_0.1 oS_0.2 ff_10_6.1 ff_10_6.2 rfl fl_X12_24 dX12_branch_261 ?_
  refine jr_iload_n C 1 rfl rfl dX12_branch_264 ?_
  refine jr_iconst C ic_2 dX12_branch_265 ?_
  refine jr_iadd C dX12_branch_266 ?_
  refine jr_iald C oS_5.1 oS_5.2.1 oS_5.2.2 dX12_branch_267 ?_
  refine jr_iast C oS_20.1 oS_20.2.1 oS_20.2.2 dX12_branch_268 (jr_ltS fun s23 => ?_)
  exact jr_end (fun h => hr s23 h _ _ dX12_branch_269)
noncomputable def f_Mo_branch_J213 (v2 : Int32) (w0 : Int32) (s : St) : Option St :=
  gd (s.1 0 28) 2 <|
  if w0 = 0 then
  f_Mo_branch_J245 v2 w0 2 ((s.1 23 ((s.1 0 28) : Int32).toNatClampNeg) * 31) (s.1 0 28) s
  else
  f_Mo_branch_J245 v2 w0 1 ((s.1 23 ((s.1 0 28) : Int32).toNatClampNeg) * 31) (s.1 0 28) s
set_option maxHeartbeats 4000000 in
set_option maxRecDepth 100000 in
theorem t_Mo_branch_J213 (G : GG) (hR : gR G = rmx 2 48) (hL : gL G = 9) (C : Cx SM G cX12_branch RX12) {Acc : St → Prop}  (v2 : Int32) (w0 : Int32) (s : St) (hr : ∀ v : St, Acc v → RtV SM G cX12_branch v) : JJ SM G Acc (f_Mo_branch_J213 v2 w0 s) 213 [(0, .ref (ad G 0)), (2, .int v2)] [.int w0] s := by
  unfold f_Mo_branch_J213
  refine jr_istore C (lv' := [(8, .int w0), (0, .ref (ad G 0)), (2, .int v2)]) (ltL hL rfl) rfl dX12_branch_213 ?_
  refine jr_aload_n C 1 rfl rfl dX12_branch_215 ?_
  refine jr_getR C FX_10 40 oS_0.1 oS_0.2 ff_10_40.1 ff_10_40.2 rfl fl_X12_85 dX12_branch_216 ?_
  refine jr_aload_n C 1 rfl rfl dX12_branch_219 ?_
  refine jr_getI C FX_10 28 oS_0.1 oS_0.2 ff_10_28.1 ff_10_28.2 fl_X12_394 dX12_branch_220 ?_
  refine jr_aload_n C 1 rfl rfl dX12_branch_223 ?_
  refine jr_getR C FX_10 40 oS_0.1 oS_0.2 ff_10_40.1 ff_10_40.2 rfl fl_X12_85 dX12_branch_224 ?_
  refine jr_aload_n C 1 rfl rfl dX12_branch_227 ?_
  refine jr_getI C FX_10 28 oS_0.1 oS_0.2 ff_10_28.1 ff_10_28.2 fl_X12_394 dX12_branch_228 ?_
  refine jr_iald C oS_23.1 oS_23.2.1 oS_23.2.2 dX12_branch_231 ?_
  refine jr_bipush C bp_31 dX12_branch_232 ?_
  refine jr_imul C dX12_branch_234 ?_
  refine jr_iload C 0 rfl dX12_branch_235 ?_
  refine jr_if_eq C (tgt := 244) dX12_branch_237 (by decide) (fun h20 => ?_) (fun h20 => ?_)
  · refine jo_pos h20 ?_
    refine jr_iconst C ic_2 dX12_branch_244 ?_
    refine jr_lv [1, 2, 0] rfl ?_
    exact t_Mo_branch_J245 G hR hL C  v2 w0 2 ((s.1 23 ((s.1 0 28) : Int32).toNatClampNeg) * 31) (s.1 0 28) s hr
  refine jo_neg h20 ?_
  refine jr_iconst C ic_1 dX12_branch_240 ?_
  refine jr_goto C (tgt := 245) dX12_branch_241 (by decide) ?_
  refine jr_lv [1, 2, 0] rfl ?_
  exact t_Mo_branch_J245 G hR hL C  v2 w0 1 ((s.1 23 ((s.1 0 28) : Int32).toNatClampNeg) * 31) (s.1 0 28) s hr
noncomputable def f_Mo_branch_J104 (v1 : Int32) (v2 : Int32) (v3 : Int32) (v5 : Int32) (s : St) : Option St :=
  if v1 = 29 then
  (if v3 = v5 then
  f_Mo_branch_J213 v2 1 s
  else
  f_Mo_branch_J213 v2 0 s)
  else
  if v1 = 30 then
  (if v3 = v5 then
  f_Mo_branch_J213 v2 0 s
  else
  f_Mo_branch_J213 v2 1 s)
  else
  if v1 = 31 then
  (if v5 ≤ v3 then
  f_Mo_branch_J213 v2 0 s
  else
  f_Mo_branch_J213 v2 1 s)
  else
  if v1 = 32 then
  (if v3 < v5 then
  f_Mo_branch_J213 v2 0 s
  else
  f_Mo_branch_J213 v2 1 s)
  else
  if v1 = 33 then
  f_Mo_branch_J213 v2 (f_Mo_below v3 v5) s
  else
  if (f_Mo_below v3 v5) = 0 then
  f_Mo_branch_J213 v2 1 s
  else
  f_Mo_branch_J213 v2 0 s
set_option maxHeartbeats 4000000 in
set_option maxRecDepth 100000 in
theorem t_Mo_branch_J104 (G : GG) (hR : gR G = rmx 2 48) (hL : gL G = 9) (C : Cx SM G cX12_branch RX12) {Acc : St → Prop}  (v1 : Int32) (v2 : Int32) (v3 : Int32) (v5 : Int32) (s : St) (hr : ∀ v : St, Acc v → RtV SM G cX12_branch v) : JJ SM G Acc (f_Mo_branch_J104 v1 v2 v3 v5 s) 104 [(0, .ref (ad G 0)), (1, .int v1), (2, .int v2), (3, .int v3), (5, .int v5)] [] s := by
  unfold f_Mo_branch_J104
  refine jr_iload_n C 1 rfl rfl dX12_branch_104 ?_
  refine jr_bipush C bp_29 dX12_branch_105 ?_
  refine jr_icmp_ne C (tgt := 124) dX12_branch_107 (by decide) (fun h14 => ?_) (fun h14 => ?_)
  · refine jo_neg h14 ?_
    refine jr_iload_n C 1 rfl rfl dX12_branch_124 ?_
    refine jr_bipush C bp_30 dX12_branch_125 ?_
    refine jr_icmp_ne C (tgt := 144) dX12_branch_127 (by decide) (fun h15 => ?_) (fun h15 => ?_)
    · refine jo_neg h15 ?_
      refine jr_iload_n C 1 rfl rfl dX12_branch_144 ?_
      refine jr_bipush C bp_31 dX12_branch_145 ?_
      refine jr_icmp_ne C (tgt := 164) dX12_branch_147 (by decide) (fun h16 => ?_) (fun h16 => ?_)
      · refine jo_neg h16 ?_
        refine jr_iload_n C 1 rfl rfl dX12_branch_164 ?_
        refine jr_bipush C bp_32 dX12_branch_165 ?_
        refine jr_icmp_ne C (tgt := 184) dX12_branch_167 (by decide) (fun h17 => ?_) (fun h17 => ?_)
        · refine jo_neg h17 ?_
          refine jr_iload_n C 1 rfl rfl dX12_branch_184 ?_
          refine jr_bipush C bp_33 dX12_branch_185 ?_
          refine jr_icmp_ne C (tgt := 199) dX12_branch_187 (by decide) (fun h18 => ?_) (fun h18 => ?_)
          · refine jo_neg h18 ?_
            refine jr_iload_n C 3 rfl rfl dX12_branch_199 ?_
            refine jr_iload C 4 rfl dX12_branch_200 ?_
            refine jr_callSI C km_X12_430 (rk hR rfl) (c_Mo_below (gl G) v3 v5 s) rfl rfl rfl (Nat.le_of_ble_eq_true rfl) dX12_branch_202 ?_
            refine jr_if_ne C (tgt := 212) dX12_branch_205 (by decide) (fun h19 => ?_) (fun h19 => ?_)
            · refine jo_neg h19 ?_
              refine jr_iconst C ic_0 dX12_branch_212 ?_
              refine jr_lv [0, 2] rfl ?_
              exact t_Mo_branch_J213 G hR hL C  v2 0 s hr
            refine jo_pos h19 ?_
            refine jr_iconst C ic_1 dX12_branch_208 ?_
            refine jr_goto C (tgt := 213) dX12_branch_209 (by decide) ?_
            refine jr_lv [0, 2] rfl ?_
            exact t_Mo_branch_J213 G hR hL C  v2 1 s hr
          refine jo_pos h18 ?_
          refine jr_iload_n C 3 rfl rfl dX12_branch_190 ?_
          refine jr_iload C 4 rfl dX12_branch_191 ?_
          refine jr_callSI C km_X12_430 (rk hR rfl) (c_Mo_below (gl G) v3 v5 s) rfl rfl rfl (Nat.le_of_ble_eq_true rfl) dX12_branch_193 ?_
          refine jr_goto C (tgt := 213) dX12_branch_196 (by decide) ?_
          refine jr_lv [0, 2] rfl ?_
          exact t_Mo_branch_J213 G hR hL C  v2 (f_Mo_below v3 v5) s hr
        refine jo_pos h17 ?_
        refine jr_iload_n C 3 rfl rfl dX12_branch_170 ?_
        refine jr_iload C 4 rfl dX12_branch_171 ?_
        refine jr_icmp_lt C (tgt := 180) dX12_branch_173 (by decide) (fun h24 => ?_) (fun h24 => ?_)
        · refine jo_pos h24 ?_
          refine jr_iconst C ic_0 dX12_branch_180 ?_
          refine jr_goto C (tgt := 213) dX12_branch_181 (by decide) ?_
          refine jr_lv [0, 2] rfl ?_
          exact t_Mo_branch_J213 G hR hL C  v2 0 s hr
        refine jo_neg h24 ?_
        refine jr_iconst C ic_1 dX12_branch_176 ?_
        refine jr_goto C (tgt := 213) dX12_branch_177 (by decide) ?_
        refine jr_lv [0, 2] rfl ?_
        exact t_Mo_branch_J213 G hR hL C  v2 1 s hr
      refine jo_pos h16 ?_
      refine jr_iload_n C 3 rfl rfl dX12_branch_150 ?_
      refine jr_iload C 4 rfl dX12_branch_151 ?_
      refine jr_icmp_ge C (tgt := 160) dX12_branch_153 (by decide) (fun h25 => ?_) (fun h25 => ?_)
      · refine jo_pos h25 ?_
        refine jr_iconst C ic_0 dX12_branch_160 ?_
        refine jr_goto C (tgt := 213) dX12_branch_161 (by decide) ?_
        refine jr_lv [0, 2] rfl ?_
        exact t_Mo_branch_J213 G hR hL C  v2 0 s hr
      refine jo_neg h25 ?_
      refine jr_iconst C ic_1 dX12_branch_156 ?_
      refine jr_goto C (tgt := 213) dX12_branch_157 (by decide) ?_
      refine jr_lv [0, 2] rfl ?_
      exact t_Mo_branch_J213 G hR hL C  v2 1 s hr
    refine jo_pos h15 ?_
    refine jr_iload_n C 3 rfl rfl dX12_branch_130 ?_
    refine jr_iload C 4 rfl dX12_branch_131 ?_
    refine jr_icmp_eq C (tgt := 140) dX12_branch_133 (by decide) (fun h26 => ?_) (fun h26 => ?_)
    · refine jo_pos h26 ?_
      refine jr_iconst C ic_0 dX12_branch_140 ?_
      refine jr_goto C (tgt := 213) dX12_branch_141 (by decide) ?_
      refine jr_lv [0, 2] rfl ?_
      exact t_Mo_branch_J213 G hR hL C  v2 0 s hr
    refine jo_neg h26 ?_
    refine jr_iconst C ic_1 dX12_branch_136 ?_
    refine jr_goto C (tgt := 213) dX12_branch_137 (by decide) ?_
    refine jr_lv [0, 2] rfl ?_
    exact t_Mo_branch_J213 G hR hL C  v2 1 s hr
  refine jo_pos h14 ?_
  refine jr_iload_n C 3 rfl rfl dX12_branch_110 ?_
  refine jr_iload C 4 rfl dX12_branch_111 ?_
  refine jr_icmp_ne C (tgt := 120) dX12_branch_113 (by decide) (fun h27 => ?_) (fun h27 => ?_)
  · refine jo_neg h27 ?_
    refine jr_iconst C ic_0 dX12_branch_120 ?_
    refine jr_goto C (tgt := 213) dX12_branch_121 (by decide) ?_
    refine jr_lv [0, 2] rfl ?_
    exact t_Mo_branch_J213 G hR hL C  v2 0 s hr
  refine jo_pos h27 ?_
  refine jr_iconst C ic_1 dX12_branch_116 ?_
  refine jr_goto C (tgt := 213) dX12_branch_117 (by decide) ?_
  refine jr_lv [0, 2] rfl ?_
  exact t_Mo_branch_J213 G hR hL C  v2 1 s hr
noncomputable def f_Mo_branch_J73 (v1 : Int32) (v2 : Int32) (v3 : Int32) (v4 : Int32) (v5 : Int32) (v6 : Int32) (w0 : Int32) (s : St) : Option St :=
  if w0 = 0 then
  f_Mo_branch_J104 v1 v2 v3 v5 s
  else
  (f_Mo_origin v2 s).bind fun q28 =>
  (f_Mo_origin (v2 + 1) s).bind fun q30 =>
  (f_Mo_told 1 (f_Mo_originOf v4 q28 v6 q30) s).bind fun q32 =>
  f_Mo_branch_J104 v1 v2 v3 v5 q32
set_option maxHeartbeats 4000000 in
set_option maxRecDepth 100000 in
theorem t_Mo_branch_J73 (G : GG) (hR : gR G = rmx 2 48) (hL : gL G = 9) (C : Cx SM G cX12_branch RX12) {Acc : St → Prop}  (v1 : Int32) (v2 : Int32) (v3 : Int32) (v4 : Int32) (v5 : Int32) (v6 : Int32) (w0 : Int32) (s : St) (hr : ∀ v : St, Acc v → RtV SM G cX12_branch v) : JJ SM G Acc (f_Mo_branch_J73 v1 v2 v3 v4 v5 v6 w0 s) 73 [(0, .ref (ad G 0)), (1, .int v1), (2, .int v2), (3, .int v3), (4, .int v4), (5, .int v5), (6, .int v6)] [.int w0] s := by
  unfold f_Mo_branch_J73
  refine jr_istore C (lv' := [(7, .int w0), (0, .ref (ad G 0)), (1, .int v1), (2, .int v2), (3, .int v3), (4, .int v4), (5, .int v5), (6, .int v6)]) (ltL hL rfl) rfl dX12_branch_73 ?_
  refine jr_iload C 0 rfl dX12_branch_75 ?_
  refine jr_if_eq C (tgt := 104) dX12_branch_77 (by decide) (fun h13 => ?_) (fun h13 => ?_)
  · refine jo_pos h13 ?_
    refine jr_lv [1, 2, 3, 4, 6] rfl ?_
    exact t_Mo_branch_J104 G hR hL C  v1 v2 v3 v5 s hr
  refine jo_neg h13 ?_
  refine jr_aload_n C 1 rfl rfl dX12_branch_80 ?_
  refine jr_iconst C ic_1 dX12_branch_81 ?_
  refine jr_iload C 5 rfl dX12_branch_82 ?_
  refine jr_aload_n C 1 rfl rfl dX12_branch_84 ?_
  refine jr_iload_n C 3 rfl rfl dX12_branch_85 ?_
  refine jr_bind (fun q28 e29 => ?_)
  refine jr_callVI C FX_10 km_X12_457 oS_0.1 oS_0.2 (rk hR rfl) (c_Mo_origin (gl G) v2 s e29) rfl rfl rfl (Nat.le_of_ble_eq_true rfl) dX12_branch_86 ?_
  refine jr_iload C 7 rfl dX12_branch_89 ?_
  refine jr_aload_n C 1 rfl rfl dX12_branch_91 ?_
  refine jr_iload_n C 3 rfl rfl dX12_branch_92 ?_
  refine jr_iconst C ic_1 dX12_branch_93 ?_
  refine jr_iadd C dX12_branch_94 ?_
  refine jr_bind (fun q30 e31 => ?_)
  refine jr_callVI C FX_10 km_X12_457 oS_0.1 oS_0.2 (rk hR rfl) (c_Mo_origin (gl G) (v2 + 1) s e31) rfl rfl rfl (Nat.le_of_ble_eq_true rfl) dX12_branch_95 ?_
  refine jr_callSI C km_X12_470 (rk hR rfl) (c_Mo_originOf (gl G) v4 q28 v6 q30 s) rfl rfl rfl (Nat.le_of_ble_eq_true rfl) dX12_branch_98 ?_
  refine jr_bind (fun q32 e33 => ?_)
  refine jr_callVV C FX_10 km_X12_460 oS_0.1 oS_0.2 (rk hR rfl) (c_Mo_told (gl G) 1 (f_Mo_originOf v4 q28 v6 q30) s e33) rfl rfl rfl (Nat.le_of_ble_eq_true rfl) dX12_branch_101 ?_
  refine jr_lv [1, 2, 3, 4, 6] rfl ?_
  exact t_Mo_branch_J104 G hR hL C  v1 v2 v3 v5 q32 hr
noncomputable def f_Mo_branch_J70 (v1 : Int32) (v2 : Int32) (v3 : Int32) (v4 : Int32) (v5 : Int32) (v6 : Int32) (w0 : Int32) (w1 : Int32) (w2 : Int32) (w3 : Int32) (w4 : Int32) (s : St) : Option St :=
  (f_Mo_lessShade w4 w3 w2 w1 w0 s).bind fun q11 =>
  f_Mo_branch_J73 v1 v2 v3 v4 v5 v6 q11 s
set_option maxHeartbeats 4000000 in
set_option maxRecDepth 100000 in
theorem t_Mo_branch_J70 (G : GG) (hR : gR G = rmx 2 48) (hL : gL G = 9) (C : Cx SM G cX12_branch RX12) {Acc : St → Prop}  (v1 : Int32) (v2 : Int32) (v3 : Int32) (v4 : Int32) (v5 : Int32) (v6 : Int32) (w0 : Int32) (w1 : Int32) (w2 : Int32) (w3 : Int32) (w4 : Int32) (s : St) (hr : ∀ v : St, Acc v → RtV SM G cX12_branch v) : JJ SM G Acc (f_Mo_branch_J70 v1 v2 v3 v4 v5 v6 w0 w1 w2 w3 w4 s) 70 [(0, .ref (ad G 0)), (1, .int v1), (2, .int v2), (3, .int v3), (4, .int v4), (5, .int v5), (6, .int v6)] [.int w0, .int w1, .int w2, .int w3, .int w4, .ref (ad G 0)] s := by
  unfold f_Mo_branch_J70
  refine jr_bind (fun q11 e12 => ?_)
  refine jr_callVI C FX_10 km_X12_447 oS_0.1 oS_0.2 (rk hR rfl) (c_Mo_lessShade (gl G) w4 w3 w2 w1 w0 s e12) rfl rfl rfl (Nat.le_of_ble_eq_true rfl) dX12_branch_70 ?_
  exact t_Mo_branch_J73 G hR hL C  v1 v2 v3 v4 v5 v6 q11 s hr
noncomputable def f_Mo_branch (v1 : Int32) (v2 : Int32) (s : St) : Option St :=
  (f_Mo_value v2 s).bind fun q1 =>
  (f_Mo_shade v2 s).bind fun q3 =>
  (f_Mo_value (v2 + 1) s).bind fun q5 =>
  (f_Mo_shade (v2 + 1) s).bind fun q7 =>
  if 31 ≤ v1 then
  (if 33 ≤ v1 then
  f_Mo_branch_J70 v1 v2 q1 q3 q5 q7 0 q7 q5 q3 q1 s
  else
  f_Mo_branch_J70 v1 v2 q1 q3 q5 q7 1 q7 q5 q3 q1 s)
  else
  (f_Mo_equalShade q1 q3 q5 q7 s).bind fun q34 =>
  f_Mo_branch_J73 v1 v2 q1 q3 q5 q7 q34 s
set_option maxHeartbeats 4000000 in
set_option maxRecDepth 100000 in
theorem t_Mo_branch (G : GG) (hR : gR G = rmx 2 48) (hL : gL G = 9) (C : Cx SM G cX12_branch RX12) {Acc : St → Prop}  (v1 : Int32) (v2 : Int32) (s : St) (hr : ∀ v : St, Acc v → RtV SM G cX12_branch v) : JJ SM G Acc (f_Mo_branch v1 v2 s) 0 [(0, .ref (ad G 0)), (1, .int v1), (2, .int v2)] [] s := by
  unfold f_Mo_branch
  refine jr_aload_n C 0 rfl rfl dX12_branch_0 ?_
  refine jr_iload_n C 2 rfl rfl dX12_branch_1 ?_
  refine jr_bind (fun q1 e2 => ?_)
  refine jr_callVI C FX_10 km_X12_451 oS_0.1 oS_0.2 (rk hR rfl) (c_Mo_value (gl G) v2 s e2) rfl rfl rfl (Nat.le_of_ble_eq_true rfl) dX12_branch_2 ?_
  refine jr_istore_n C (lv' := [(3, .int q1), (0, .ref (ad G 0)), (1, .int v1), (2, .int v2)]) (ltL hL rfl) rfl rfl dX12_branch_5 ?_
  refine jr_aload_n C 1 rfl rfl dX12_branch_6 ?_
  refine jr_iload_n C 3 rfl rfl dX12_branch_7 ?_
  refine jr_bind (fun q3 e4 => ?_)
  refine jr_callVI C FX_10 km_X12_454 oS_0.1 oS_0.2 (rk hR rfl) (c_Mo_shade (gl G) v2 s e4) rfl rfl rfl (Nat.le_of_ble_eq_true rfl) dX12_branch_8 ?_
  refine jr_istore C (lv' := [(4, .int q3), (3, .int q1), (0, .ref (ad G 0)), (1, .int v1), (2, .int v2)]) (ltL hL rfl) rfl dX12_branch_11 ?_
  refine jr_aload_n C 2 rfl rfl dX12_branch_13 ?_
  refine jr_iload_n C 4 rfl rfl dX12_branch_14 ?_
  refine jr_iconst C ic_1 dX12_branch_15 ?_
  refine jr_iadd C dX12_branch_16 ?_
  refine jr_bind (fun q5 e6 => ?_)
  refine jr_callVI C FX_10 km_X12_451 oS_0.1 oS_0.2 (rk hR rfl) (c_Mo_value (gl G) (v2 + 1) s e6) rfl rfl rfl (Nat.le_of_ble_eq_true rfl) dX12_branch_17 ?_
  refine jr_istore C (lv' := [(5, .int q5), (4, .int q3), (3, .int q1), (0, .ref (ad G 0)), (1, .int v1), (2, .int v2)]) (ltL hL rfl) rfl dX12_branch_20 ?_
  refine jr_aload_n C 3 rfl rfl dX12_branch_22 ?_
  refine jr_iload_n C 5 rfl rfl dX12_branch_23 ?_
  refine jr_iconst C ic_1 dX12_branch_24 ?_
  refine jr_iadd C dX12_branch_25 ?_
  refine jr_bind (fun q7 e8 => ?_)
  refine jr_callVI C FX_10 km_X12_454 oS_0.1 oS_0.2 (rk hR rfl) (c_Mo_shade (gl G) (v2 + 1) s e8) rfl rfl rfl (Nat.le_of_ble_eq_true rfl) dX12_branch_26 ?_
  refine jr_istore C (lv' := [(6, .int q7), (5, .int q5), (4, .int q3), (3, .int q1), (0, .ref (ad G 0)), (1, .int v1), (2, .int v2)]) (ltL hL rfl) rfl dX12_branch_29 ?_
  refine jr_iload_n C 5 rfl rfl dX12_branch_31 ?_
  refine jr_bipush C bp_31 dX12_branch_32 ?_
  refine jr_icmp_ge C (tgt := 51) dX12_branch_34 (by decide) (fun h9 => ?_) (fun h9 => ?_)
  · refine jo_pos h9 ?_
    refine jr_aload_n C 4 rfl rfl dX12_branch_51 ?_
    refine jr_iload_n C 3 rfl rfl dX12_branch_52 ?_
    refine jr_iload C 2 rfl dX12_branch_53 ?_
    refine jr_iload C 1 rfl dX12_branch_55 ?_
    refine jr_iload C 0 rfl dX12_branch_57 ?_
    refine jr_iload_n C 5 rfl rfl dX12_branch_59 ?_
    refine jr_bipush C bp_33 dX12_branch_60 ?_
    refine jr_icmp_ge C (tgt := 69) dX12_branch_62 (by decide) (fun h10 => ?_) (fun h10 => ?_)
    · refine jo_pos h10 ?_
      refine jr_iconst C ic_0 dX12_branch_69 ?_
      refine jr_lv [4, 5, 6, 3, 2, 1, 0] rfl ?_
      exact t_Mo_branch_J70 G hR hL C  v1 v2 q1 q3 q5 q7 0 q7 q5 q3 q1 s hr
    refine jo_neg h10 ?_
    refine jr_iconst C ic_1 dX12_branch_65 ?_
    refine jr_goto C (tgt := 70) dX12_branch_66 (by decide) ?_
    refine jr_lv [4, 5, 6, 3, 2, 1, 0] rfl ?_
    exact t_Mo_branch_J70 G hR hL C  v1 v2 q1 q3 q5 q7 1 q7 q5 q3 q1 s hr
  refine jo_neg h9 ?_
  refine jr_aload_n C 4 rfl rfl dX12_branch_37 ?_
  refine jr_iload_n C 3 rfl rfl dX12_branch_38 ?_
  refine jr_iload C 2 rfl dX12_branch_39 ?_
  refine jr_iload C 1 rfl dX12_branch_41 ?_
  refine jr_iload C 0 rfl dX12_branch_43 ?_
  refine jr_bind (fun q34 e35 => ?_)
  refine jr_callVI C FX_10 km_X12_443 oS_0.1 oS_0.2 (rk hR rfl) (c_Mo_equalShade (gl G) q1 q3 q5 q7 s e35) rfl rfl rfl (Nat.le_of_ble_eq_true rfl) dX12_branch_45 ?_
  refine jr_goto C (tgt := 73) dX12_branch_48 (by decide) ?_
  refine jr_lv [4, 5, 6, 3, 2, 1, 0] rfl ?_
  exact t_Mo_branch_J73 G hR hL C  v1 v2 q1 q3 q5 q7 q34 s hr
set_option maxRecDepth 100000 in
theorem c_Mo_branch (l : Launch)  (v1 : Int32) (v2 : Int32) (s : St) {q : St} (h : f_Mo_branch v1 v2 s = some q) : CT SM l yX12_branch cX12_branch 9 none 2 48 (fun a => [.ref (a 0), .int v1, .int v2]) s q (fun _ => none) :=
  ct_V okX_M (by decide) (fun _ => Nat.le_of_ble_eq_true rfl) (fun G hl hR hL C hr => t_Mo_branch G hR hL C (Acc := fun v => v = q)  v1 v2 s (fun v hv => by rw [hv]; exact hr) ⟨_, h, rfl⟩)
noncomputable def f_Mo_push_J38 (v1 : Int32) (s : St) : Option St :=
  (f_Mo_value v1 s).bind fun q2 =>
  (f_Mo_shade v1 s).bind fun q4 =>
  (f_Mo_origin v1 s).bind fun q6 =>
  gd ((8 * (s.1 0 28)) + 7) 16 <|
  (f_Mo_give 7 ((s.1 13 (((8 * (s.1 0 28)) + 7) : Int32).toNatClampNeg) - 4) 0 0 s).bind fun q8 =>
  gd (q8.1 0 28) 2 <|
  if (q8.1 21 ((q8.1 0 28) : Int32).toNatClampNeg) = 0 then
  (gd ((8 * (q8.1 0 28)) + 7) 16 <|
  (f_Mo_store (q8.1 13 (((8 * (q8.1 0 28)) + 7) : Int32).toNatClampNeg) 4 q2 q4 q6 q8).bind fun q11 =>
  some q11)
  else
  some q8
set_option maxHeartbeats 4000000 in
set_option maxRecDepth 100000 in
theorem t_Mo_push_J38 (G : GG) (hR : gR G = rmx 4 93) (hL : gL G = 5) (C : Cx SM G cX12_push RX12) {Acc : St → Prop}  (v1 : Int32) (s : St) (hr : ∀ v : St, Acc v → RtV SM G cX12_push v) : JJ SM G Acc (f_Mo_push_J38 v1 s) 38 [(0, .ref (ad G 0)), (1, .int v1)] [] s := by
  unfold f_Mo_push_J38
  refine jr_aload_n C 0 rfl rfl dX12_push_38 ?_
  refine jr_iload_n C 1 rfl rfl dX12_push_39 ?_
  refine jr_bind (fun q2 e3 => ?_)
  refine jr_callVI C FX_10 km_X12_451 oS_0.1 oS_0.2 (rk hR rfl) (c_Mo_value (gl G) v1 s e3) rfl rfl rfl (Nat.le_of_ble_eq_true rfl) dX12_push_40 ?_
  refine jr_istore_n C (lv' := [(2, .int q2), (0, .ref (ad G 0)), (1, .int v1)]) (ltL hL rfl) rfl rfl dX12_push_43 ?_
  refine jr_aload_n C 1 rfl rfl dX12_push_44 ?_
  refine jr_iload_n C 2 rfl rfl dX12_push_45 ?_
  refine jr_bind (fun q4 e5 => ?_)
  refine jr_callVI C FX_10 km_X12_454 oS_0.1 oS_0.2 (rk hR rfl) (c_Mo_shade (gl G) v1 s e5) rfl rfl rfl (Nat.le_of_ble_eq_true rfl) dX12_push_46 ?_
  refine jr_istore_n C (lv' := [(3, .int q4), (2, .int q2), (0, .ref (ad G 0)), (1, .int v1)]) (ltL hL rfl) rfl rfl dX12_push_49 ?_
  refine jr_aload_n C 2 rfl rfl dX12_push_50 ?_
  refine jr_iload_n C 3 rfl rfl dX12_push_51 ?_
  refine jr_bind (fun q6 e7 => ?_)
  refine jr_callVI C FX_10 km_X12_457 oS_0.1 oS_0.2 (rk hR rfl) (c_Mo_origin (gl G) v1 s e7) rfl rfl rfl (Nat.le_of_ble_eq_true rfl) dX12_push_52 ?_
  refine jr_istore C (lv' := [(4, .int q6), (3, .int q4), (2, .int q2), (0, .ref (ad G 0)), (1, .int v1)]) (ltL hL rfl) rfl dX12_push_55 ?_
  refine jr_aload_n C 3 rfl rfl dX12_push_57 ?_
  refine jr_bipush C bp_7 dX12_push_58 ?_
  refine jr_aload_n C 3 rfl rfl dX12_push_60 ?_
  refine jr_getR C FX_10 30 oS_0.1 oS_0.2 ff_10_30.1 ff_10_30.2 rfl fl_X12_55 dX12_push_61 ?_
  refine jr_bipush C bp_8 dX12_push_64 ?_
  refine jr_aload_n C 3 rfl rfl dX12_push_66 ?_
  refine jr_getI C FX_10 28 oS_0.1 oS_0.2 ff_10_28.1 ff_10_28.2 fl_X12_394 dX12_push_67 ?_
  refine jr_imul C dX12_push_70 ?_
  refine jr_bipush C bp_7 dX12_push_71 ?_
  refine jr_iadd C dX12_push_73 ?_
  refine jr_iald C oS_13.1 oS_13.2.1 oS_13.2.2 dX12_push_74 ?_
  refine jr_iconst C ic_4 dX12_push_75 ?_
  refine jr_isub C dX12_push_76 ?_
  refine jr_iconst C ic_0 dX12_push_77 ?_
  refine jr_iconst C ic_0 dX12_push_78 ?_
  refine jr_bind (fun q8 e9 => ?_)
  refine jr_callVV C FX_10 km_X12_473 oS_0.1 oS_0.2 (rk hR rfl) (c_Mo_give (gl G) 7 ((s.1 13 (((8 * (s.1 0 28)) + 7) : Int32).toNatClampNeg) - 4) 0 0 s e9) rfl rfl rfl (Nat.le_of_ble_eq_true rfl) dX12_push_79 ?_
  refine jr_aload_n C 3 rfl rfl dX12_push_82 ?_
  refine jr_getR C FX_10 38 oS_0.1 oS_0.2 ff_10_38.1 ff_10_38.2 rfl fl_X12_79 dX12_push_83 ?_
  refine jr_aload_n C 3 rfl rfl dX12_push_86 ?_
  refine jr_getI C FX_10 28 oS_0.1 oS_0.2 ff_10_28.1 ff_10_28.2 fl_X12_394 dX12_push_87 ?_
  refine jr_iald C oS_21.1 oS_21.2.1 oS_21.2.2 dX12_push_90 ?_
  refine jr_if_ne C (tgt := 118) dX12_push_91 (by decide) (fun h10 => ?_) (fun h10 => ?_)
  · refine jo_neg h10 ?_
    exact jr_end (fun h => hr q8 h _ _ dX12_push_118)
  refine jo_pos h10 ?_
  refine jr_aload_n C 3 rfl rfl dX12_push_94 ?_
  refine jr_aload_n C 3 rfl rfl dX12_push_95 ?_
  refine jr_getR C FX_10 30 oS_0.1 oS_0.2 ff_10_30.1 ff_10_30.2 rfl fl_X12_55 dX12_push_96 ?_
  refine jr_bipush C bp_8 dX12_push_99 ?_
  refine jr_aload_n C 3 rfl rfl dX12_push_101 ?_
  refine jr_getI C FX_10 28 oS_0.1 oS_0.2 ff_10_28.1 ff_10_28.2 fl_X12_394 dX12_push_102 ?_
  refine jr_imul C dX12_push_105 ?_
  refine jr_bipush C bp_7 dX12_push_106 ?_
  refine jr_iadd C dX12_push_108 ?_
  refine jr_iald C oS_13.1 oS_13.2.1 oS_13.2.2 dX12_push_109 ?_
  refine jr_iconst C ic_4 dX12_push_110 ?_
  refine jr_iload_n C 2 rfl rfl dX12_push_111 ?_
  refine jr_iload_n C 1 rfl rfl dX12_push_112 ?_
  refine jr_iload C 0 rfl dX12_push_113 ?_
  refine jr_bind (fun q11 e12 => ?_)
  refine jr_callVV C FX_10 km_X12_493 oS_0.1 oS_0.2 (rk hR rfl) (c_Mo_store (gl G) (q8.1 13 (((8 * (q8.1 0 28)) + 7) : Int32).toNatClampNeg) 4 q2 q4 q6 q8 e12) rfl rfl rfl (Nat.le_of_ble_eq_true rfl) dX12_push_115 ?_
  exact jr_end (fun h => hr q11 h _ _ dX12_push_118)
noncomputable def f_Mo_push (v1 : Int32) (s : St) : Option St :=
  gd ((8 * (s.1 0 28)) + 7) 16 <|
  if (s.1 14 (((8 * (s.1 0 28)) + 7) : Int32).toNatClampNeg) = 0 then
  f_Mo_push_J38 v1 s
  else
  gd ((8 * (s.1 0 28)) + 7) 16 <|
  (f_Mo_told 2 (s.1 15 (((8 * (s.1 0 28)) + 7) : Int32).toNatClampNeg) s).bind fun q13 =>
  f_Mo_push_J38 v1 q13
set_option maxHeartbeats 4000000 in
set_option maxRecDepth 100000 in
theorem t_Mo_push (G : GG) (hR : gR G = rmx 4 93) (hL : gL G = 5) (C : Cx SM G cX12_push RX12) {Acc : St → Prop}  (v1 : Int32) (s : St) (hr : ∀ v : St, Acc v → RtV SM G cX12_push v) : JJ SM G Acc (f_Mo_push v1 s) 0 [(0, .ref (ad G 0)), (1, .int v1)] [] s := by
  unfold f_Mo_push
  refine jr_aload_n C 0 rfl rfl dX12_push_0 ?_
  refine jr_getR C FX_10 31 oS_0.1 oS_0.2 ff_10_31.1 ff_10_31.2 rfl fl_X12_58 dX12_push_1 ?_
  refine jr_bipush C bp_8 dX12_push_4 ?_
  refine jr_aload_n C 0 rfl rfl dX12_push_6 ?_
  refine jr_getI C FX_10 28 oS_0.1 oS_0.2 ff_10_28.1 ff_10_28.2 fl_X12_394 dX12_push_7 ?_
  refine jr_imul C dX12_push_10 ?_
  refine jr_bipush C bp_7 dX12_push_11 ?_
  refine jr_iadd C dX12_push_13 ?_
  refine jr_iald C oS_14.1 oS_14.2.1 oS_14.2.2 dX12_push_14 ?_
  refine jr_if_eq C (tgt := 38) dX12_push_15 (by decide) (fun h1 => ?_) (fun h1 => ?_)
  · refine jo_pos h1 ?_
    exact t_Mo_push_J38 G hR hL C  v1 s hr
  refine jo_neg h1 ?_
  refine jr_aload_n C 0 rfl rfl dX12_push_18 ?_
  refine jr_iconst C ic_2 dX12_push_19 ?_
  refine jr_aload_n C 0 rfl rfl dX12_push_20 ?_
  refine jr_getR C FX_10 32 oS_0.1 oS_0.2 ff_10_32.1 ff_10_32.2 rfl fl_X12_61 dX12_push_21 ?_
  refine jr_bipush C bp_8 dX12_push_24 ?_
  refine jr_aload_n C 0 rfl rfl dX12_push_26 ?_
  refine jr_getI C FX_10 28 oS_0.1 oS_0.2 ff_10_28.1 ff_10_28.2 fl_X12_394 dX12_push_27 ?_
  refine jr_imul C dX12_push_30 ?_
  refine jr_bipush C bp_7 dX12_push_31 ?_
  refine jr_iadd C dX12_push_33 ?_
  refine jr_iald C oS_15.1 oS_15.2.1 oS_15.2.2 dX12_push_34 ?_
  refine jr_bind (fun q13 e14 => ?_)
  refine jr_callVV C FX_10 km_X12_460 oS_0.1 oS_0.2 (rk hR rfl) (c_Mo_told (gl G) 2 (s.1 15 (((8 * (s.1 0 28)) + 7) : Int32).toNatClampNeg) s e14) rfl rfl rfl (Nat.le_of_ble_eq_true rfl) dX12_push_35 ?_
  exact t_Mo_push_J38 G hR hL C  v1 q13 hr
set_option maxRecDepth 100000 in
theorem c_Mo_push (l : Launch)  (v1 : Int32) (s : St) {q : St} (h : f_Mo_push v1 s = some q) : CT SM l yX12_push cX12_push 5 none 4 93 (fun a => [.ref (a 0), .int v1]) s q (fun _ => none) :=
  ct_V okX_M (by decide) (fun _ => Nat.le_of_ble_eq_true rfl) (fun G hl hR hL C hr => t_Mo_push G hR hL C (Acc := fun v => v = q)  v1 s (fun v hv => by rw [hv]; exact hr) ⟨_, h, rfl⟩)
noncomputable def f_Mo_pop_J38 (v1 : Int32) (s : St) : Option St :=
  gd v1 1200 <|
  gd ((8 * (s.1 0 28)) + 7) 16 <|
  (f_Mo_load (s.1 5 (v1 : Int32).toNatClampNeg) (s.1 13 (((8 * (s.1 0 28)) + 7) : Int32).toNatClampNeg) 4 0 s).bind fun q2 =>
  gd (q2.1 0 28) 2 <|
  if (q2.1 21 ((q2.1 0 28) : Int32).toNatClampNeg) = 0 then
  (gd v1 1200 <|
  if (q2.1 5 (v1 : Int32).toNatClampNeg) = 7 then
  some q2
  else
  gd ((8 * (q2.1 0 28)) + 7) 16 <|
  (f_Mo_give 7 ((q2.1 13 (((8 * (q2.1 0 28)) + 7) : Int32).toNatClampNeg) + 4) 0 0 q2).bind fun q6 =>
  some q6)
  else
  some q2
set_option maxHeartbeats 4000000 in
set_option maxRecDepth 100000 in
theorem t_Mo_pop_J38 (G : GG) (hR : gR G = rmx 4 97) (hL : gL G = 2) (C : Cx SM G cX12_pop RX12) {Acc : St → Prop}  (v1 : Int32) (s : St) (hr : ∀ v : St, Acc v → RtV SM G cX12_pop v) : JJ SM G Acc (f_Mo_pop_J38 v1 s) 38 [(0, .ref (ad G 0)), (1, .int v1)] [] s := by
  unfold f_Mo_pop_J38
  refine jr_aload_n C 0 rfl rfl dX12_pop_38 ?_
  refine jr_aload_n C 0 rfl rfl dX12_pop_39 ?_
  refine jr_getR C FX_10 6 oS_0.1 oS_0.2 ff_10_6.1 ff_10_6.2 rfl fl_X12_24 dX12_pop_40 ?_
  refine jr_iload_n C 1 rfl rfl dX12_pop_43 ?_
  refine jr_iald C oS_5.1 oS_5.2.1 oS_5.2.2 dX12_pop_44 ?_
  refine jr_aload_n C 0 rfl rfl dX12_pop_45 ?_
  refine jr_getR C FX_10 30 oS_0.1 oS_0.2 ff_10_30.1 ff_10_30.2 rfl fl_X12_55 dX12_pop_46 ?_
  refine jr_bipush C bp_8 dX12_pop_49 ?_
  refine jr_aload_n C 0 rfl rfl dX12_pop_51 ?_
  refine jr_getI C FX_10 28 oS_0.1 oS_0.2 ff_10_28.1 ff_10_28.2 fl_X12_394 dX12_pop_52 ?_
  refine jr_imul C dX12_pop_55 ?_
  refine jr_bipush C bp_7 dX12_pop_56 ?_
  refine jr_iadd C dX12_pop_58 ?_
  refine jr_iald C oS_13.1 oS_13.2.1 oS_13.2.2 dX12_pop_59 ?_
  refine jr_iconst C ic_4 dX12_pop_60 ?_
  refine jr_iconst C ic_0 dX12_pop_61 ?_
  refine jr_bind (fun q2 e3 => ?_)
  refine jr_callVV C FX_10 km_X12_489 oS_0.1 oS_0.2 (rk hR rfl) (c_Mo_load (gl G) (s.1 5 (v1 : Int32).toNatClampNeg) (s.1 13 (((8 * (s.1 0 28)) + 7) : Int32).toNatClampNeg) 4 0 s e3) rfl rfl rfl (Nat.le_of_ble_eq_true rfl) dX12_pop_62 ?_
  refine jr_aload_n C 0 rfl rfl dX12_pop_65 ?_
  refine jr_getR C FX_10 38 oS_0.1 oS_0.2 ff_10_38.1 ff_10_38.2 rfl fl_X12_79 dX12_pop_66 ?_
  refine jr_aload_n C 0 rfl rfl dX12_pop_69 ?_
  refine jr_getI C FX_10 28 oS_0.1 oS_0.2 ff_10_28.1 ff_10_28.2 fl_X12_394 dX12_pop_70 ?_
  refine jr_iald C oS_21.1 oS_21.2.1 oS_21.2.2 dX12_pop_73 ?_
  refine jr_if_ne C (tgt := 113) dX12_pop_74 (by decide) (fun h4 => ?_) (fun h4 => ?_)
  · refine jo_neg h4 ?_
    exact jr_end (fun h => hr q2 h _ _ dX12_pop_113)
  refine jo_pos h4 ?_
  refine jr_aload_n C 0 rfl rfl dX12_pop_77 ?_
  refine jr_getR C FX_10 6 oS_0.1 oS_0.2 ff_10_6.1 ff_10_6.2 rfl fl_X12_24 dX12_pop_78 ?_
  refine jr_iload_n C 1 rfl rfl dX12_pop_81 ?_
  refine jr_iald C oS_5.1 oS_5.2.1 oS_5.2.2 dX12_pop_82 ?_
  refine jr_bipush C bp_7 dX12_pop_83 ?_
  refine jr_icmp_eq C (tgt := 113) dX12_pop_85 (by decide) (fun h5 => ?_) (fun h5 => ?_)
  · refine jo_pos h5 ?_
    exact jr_end (fun h => hr q2 h _ _ dX12_pop_113)
  refine jo_neg h5 ?_
  refine jr_aload_n C 0 rfl rfl dX12_pop_88 ?_
  refine jr_bipush C bp_7 dX12_pop_89 ?_
  refine jr_aload_n C 0 rfl rfl dX12_pop_91 ?_
  refine jr_getR C FX_10 30 oS_0.1 oS_0.2 ff_10_30.1 ff_10_30.2 rfl fl_X12_55 dX12_pop_92 ?_
  refine jr_bipush C bp_8 dX12_pop_95 ?_
  refine jr_aload_n C 0 rfl rfl dX12_pop_97 ?_
  refine jr_getI C FX_10 28 oS_0.1 oS_0.2 ff_10_28.1 ff_10_28.2 fl_X12_394 dX12_pop_98 ?_
  refine jr_imul C dX12_pop_101 ?_
  refine jr_bipush C bp_7 dX12_pop_102 ?_
  refine jr_iadd C dX12_pop_104 ?_
  refine jr_iald C oS_13.1 oS_13.2.1 oS_13.2.2 dX12_pop_105 ?_
  refine jr_iconst C ic_4 dX12_pop_106 ?_
  refine jr_iadd C dX12_pop_107 ?_
  refine jr_iconst C ic_0 dX12_pop_108 ?_
  refine jr_iconst C ic_0 dX12_pop_109 ?_
  refine jr_bind (fun q6 e7 => ?_)
  refine jr_callVV C FX_10 km_X12_473 oS_0.1 oS_0.2 (rk hR rfl) (c_Mo_give (gl G) 7 ((q2.1 13 (((8 * (q2.1 0 28)) + 7) : Int32).toNatClampNeg) + 4) 0 0 q2 e7) rfl rfl rfl (Nat.le_of_ble_eq_true rfl) dX12_pop_110 ?_
  exact jr_end (fun h => hr q6 h _ _ dX12_pop_113)
noncomputable def f_Mo_pop (v1 : Int32) (s : St) : Option St :=
  gd ((8 * (s.1 0 28)) + 7) 16 <|
  if (s.1 14 (((8 * (s.1 0 28)) + 7) : Int32).toNatClampNeg) = 0 then
  f_Mo_pop_J38 v1 s
  else
  gd ((8 * (s.1 0 28)) + 7) 16 <|
  (f_Mo_told 2 (s.1 15 (((8 * (s.1 0 28)) + 7) : Int32).toNatClampNeg) s).bind fun q8 =>
  f_Mo_pop_J38 v1 q8
set_option maxHeartbeats 4000000 in
set_option maxRecDepth 100000 in
theorem t_Mo_pop (G : GG) (hR : gR G = rmx 4 97) (hL : gL G = 2) (C : Cx SM G cX12_pop RX12) {Acc : St → Prop}  (v1 : Int32) (s : St) (hr : ∀ v : St, Acc v → RtV SM G cX12_pop v) : JJ SM G Acc (f_Mo_pop v1 s) 0 [(0, .ref (ad G 0)), (1, .int v1)] [] s := by
  unfold f_Mo_pop
  refine jr_aload_n C 0 rfl rfl dX12_pop_0 ?_
  refine jr_getR C FX_10 31 oS_0.1 oS_0.2 ff_10_31.1 ff_10_31.2 rfl fl_X12_58 dX12_pop_1 ?_
  refine jr_bipush C bp_8 dX12_pop_4 ?_
  refine jr_aload_n C 0 rfl rfl dX12_pop_6 ?_
  refine jr_getI C FX_10 28 oS_0.1 oS_0.2 ff_10_28.1 ff_10_28.2 fl_X12_394 dX12_pop_7 ?_
  refine jr_imul C dX12_pop_10 ?_
  refine jr_bipush C bp_7 dX12_pop_11 ?_
  refine jr_iadd C dX12_pop_13 ?_
  refine jr_iald C oS_14.1 oS_14.2.1 oS_14.2.2 dX12_pop_14 ?_
  refine jr_if_eq C (tgt := 38) dX12_pop_15 (by decide) (fun h1 => ?_) (fun h1 => ?_)
  · refine jo_pos h1 ?_
    exact t_Mo_pop_J38 G hR hL C  v1 s hr
  refine jo_neg h1 ?_
  refine jr_aload_n C 0 rfl rfl dX12_pop_18 ?_
  refine jr_iconst C ic_2 dX12_pop_19 ?_
  refine jr_aload_n C 0 rfl rfl dX12_pop_20 ?_
  refine jr_getR C FX_10 32 oS_0.1 oS_0.2 ff_10_32.1 ff_10_32.2 rfl fl_X12_61 dX12_pop_21 ?_
  refine jr_bipush C bp_8 dX12_pop_24 ?_
  refine jr_aload_n C 0 rfl rfl dX12_pop_26 ?_
  refine jr_getI C FX_10 28 oS_0.1 oS_0.2 ff_10_28.1 ff_10_28.2 fl_X12_394 dX12_pop_27 ?_
  refine jr_imul C dX12_pop_30 ?_
  refine jr_bipush C bp_7 dX12_pop_31 ?_
  refine jr_iadd C dX12_pop_33 ?_
  refine jr_iald C oS_15.1 oS_15.2.1 oS_15.2.2 dX12_pop_34 ?_
  refine jr_bind (fun q8 e9 => ?_)
  refine jr_callVV C FX_10 km_X12_460 oS_0.1 oS_0.2 (rk hR rfl) (c_Mo_told (gl G) 2 (s.1 15 (((8 * (s.1 0 28)) + 7) : Int32).toNatClampNeg) s e9) rfl rfl rfl (Nat.le_of_ble_eq_true rfl) dX12_pop_35 ?_
  exact t_Mo_pop_J38 G hR hL C  v1 q8 hr
set_option maxRecDepth 100000 in
theorem c_Mo_pop (l : Launch)  (v1 : Int32) (s : St) {q : St} (h : f_Mo_pop v1 s = some q) : CT SM l yX12_pop cX12_pop 2 none 4 97 (fun a => [.ref (a 0), .int v1]) s q (fun _ => none) :=
  ct_V okX_M (by decide) (fun _ => Nat.le_of_ble_eq_true rfl) (fun G hl hR hL C hr => t_Mo_pop G hR hL C (Acc := fun v => v = q)  v1 s (fun v hv => by rw [hv]; exact hr) ⟨_, h, rfl⟩)
noncomputable def f_Mo_call (v1 : Int32) (s : St) : Option St :=
  gd (s.1 0 28) 2 <|
  if (s.1 26 ((s.1 0 28) : Int32).toNatClampNeg) = 32 then
  ((f_Mo_trap 3 s).bind fun q5 =>
  some q5)
  else
  gd (s.1 0 28) 2 <|
  gd (s.1 0 28) 2 <|
  gd ((32 * (s.1 0 28)) + (s.1 26 ((s.1 0 28) : Int32).toNatClampNeg)) 64 <|
  lt (uI s 25 (((32 * (s.1 0 28)) + (s.1 26 ((s.1 0 28) : Int32).toNatClampNeg)) : Int32).toNatClampNeg (s.1 20 ((s.1 0 28) : Int32).toNatClampNeg)) fun s2 =>
  gd (s2.1 0 28) 2 <|
  gd (s2.1 0 28) 2 <|
  lt (uI s2 26 ((s2.1 0 28) : Int32).toNatClampNeg ((s2.1 26 ((s2.1 0 28) : Int32).toNatClampNeg) + 1)) fun s3 =>
  gd (s3.1 0 28) 2 <|
  lt (uI s3 20 ((s3.1 0 28) : Int32).toNatClampNeg v1) fun s4 =>
  some s4
set_option maxHeartbeats 4000000 in
set_option maxRecDepth 100000 in
theorem t_Mo_call (G : GG) (hR : gR G = rmx 1 21) (hL : gL G = 2) (C : Cx SM G cX12_call RX12) {Acc : St → Prop}  (v1 : Int32) (s : St) (hr : ∀ v : St, Acc v → RtV SM G cX12_call v) : JJ SM G Acc (f_Mo_call v1 s) 0 [(0, .ref (ad G 0)), (1, .int v1)] [] s := by
  unfold f_Mo_call
  refine jr_aload_n C 0 rfl rfl dX12_call_0 ?_
  refine jr_getR C FX_10 43 oS_0.1 oS_0.2 ff_10_43.1 ff_10_43.2 rfl fl_X12_94 dX12_call_1 ?_
  refine jr_aload_n C 0 rfl rfl dX12_call_4 ?_
  refine jr_getI C FX_10 28 oS_0.1 oS_0.2 ff_10_28.1 ff_10_28.2 fl_X12_394 dX12_call_5 ?_
  refine jr_iald C oS_26.1 oS_26.2.1 oS_26.2.2 dX12_call_8 ?_
  refine jr_bipush C bp_32 dX12_call_9 ?_
  refine jr_icmp_ne C (tgt := 20) dX12_call_11 (by decide) (fun h1 => ?_) (fun h1 => ?_)
  · refine jo_neg h1 ?_
    refine jr_aload_n C 0 rfl rfl dX12_call_20 ?_
    refine jr_getR C FX_10 42 oS_0.1 oS_0.2 ff_10_42.1 ff_10_42.2 rfl fl_X12_91 dX12_call_21 ?_
    refine jr_bipush C bp_32 dX12_call_24 ?_
    refine jr_aload_n C 0 rfl rfl dX12_call_26 ?_
    refine jr_getI C FX_10 28 oS_0.1 oS_0.2 ff_10_28.1 ff_10_28.2 fl_X12_394 dX12_call_27 ?_
    refine jr_imul C dX12_call_30 ?_
    refine jr_aload_n C 0 rfl rfl dX12_call_31 ?_
    refine jr_getR C FX_10 43 oS_0.1 oS_0.2 ff_10_43.1 ff_10_43.2 rfl fl_X12_94 dX12_call_32 ?_
    refine jr_aload_n C 0 rfl rfl dX12_call_35 ?_
    refine jr_getI C FX_10 28 oS_0.1 oS_0.2 ff_10_28.1 ff_10_28.2 fl_X12_394 dX12_call_36 ?_
    refine jr_iald C oS_26.1 oS_26.2.1 oS_26.2.2 dX12_call_39 ?_
    refine jr_iadd C dX12_call_40 ?_
    refine jr_aload_n C 0 rfl rfl dX12_call_41 ?_
    refine jr_getR C FX_10 37 oS_0.1 oS_0.2 ff_10_37.1 ff_10_37.2 rfl fl_X12_76 dX12_call_42 ?_
    refine jr_aload_n C 0 rfl rfl dX12_call_45 ?_
    refine jr_getI C FX_10 28 oS_0.1 oS_0.2 ff_10_28.1 ff_10_28.2 fl_X12_394 dX12_call_46 ?_
    refine jr_iald C oS_20.1 oS_20.2.1 oS_20.2.2 dX12_call_49 ?_
    refine jr_iast C oS_25.1 oS_25.2.1 oS_25.2.2 dX12_call_50 (jr_ltS fun s2 => ?_)
    refine jr_aload_n C 0 rfl rfl dX12_call_51 ?_
    refine jr_getR C FX_10 43 oS_0.1 oS_0.2 ff_10_43.1 ff_10_43.2 rfl fl_X12_94 dX12_call_52 ?_
    refine jr_aload_n C 0 rfl rfl dX12_call_55 ?_
    refine jr_getI C FX_10 28 oS_0.1 oS_0.2 ff_10_28.1 ff_10_28.2 fl_X12_394 dX12_call_56 ?_
    refine jr_dup2 C rfl rfl dX12_call_59 ?_
    refine jr_iald C oS_26.1 oS_26.2.1 oS_26.2.2 dX12_call_60 ?_
    refine jr_iconst C ic_1 dX12_call_61 ?_
    refine jr_iadd C dX12_call_62 ?_
    refine jr_iast C oS_26.1 oS_26.2.1 oS_26.2.2 dX12_call_63 (jr_ltS fun s3 => ?_)
    refine jr_aload_n C 0 rfl rfl dX12_call_64 ?_
    refine jr_getR C FX_10 37 oS_0.1 oS_0.2 ff_10_37.1 ff_10_37.2 rfl fl_X12_76 dX12_call_65 ?_
    refine jr_aload_n C 0 rfl rfl dX12_call_68 ?_
    refine jr_getI C FX_10 28 oS_0.1 oS_0.2 ff_10_28.1 ff_10_28.2 fl_X12_394 dX12_call_69 ?_
    refine jr_iload_n C 1 rfl rfl dX12_call_72 ?_
    refine jr_iast C oS_20.1 oS_20.2.1 oS_20.2.2 dX12_call_73 (jr_ltS fun s4 => ?_)
    exact jr_end (fun h => hr s4 h _ _ dX12_call_74)
  refine jo_pos h1 ?_
  refine jr_aload_n C 0 rfl rfl dX12_call_14 ?_
  refine jr_iconst C ic_3 dX12_call_15 ?_
  refine jr_bind (fun q5 e6 => ?_)
  refine jr_callVV C FX_10 km_X12_423 oS_0.1 oS_0.2 (rk hR rfl) (c_Mo_trap (gl G) 3 s e6) rfl rfl rfl (Nat.le_of_ble_eq_true rfl) dX12_call_16 ?_
  exact jr_end (fun h => hr q5 h _ _ dX12_call_19)
set_option maxRecDepth 100000 in
theorem c_Mo_call (l : Launch)  (v1 : Int32) (s : St) {q : St} (h : f_Mo_call v1 s = some q) : CT SM l yX12_call cX12_call 2 none 1 21 (fun a => [.ref (a 0), .int v1]) s q (fun _ => none) :=
  ct_V okX_M (by decide) (fun _ => Nat.le_of_ble_eq_true rfl) (fun G hl hR hL C hr => t_Mo_call G hR hL C (Acc := fun v => v = q)  v1 s (fun v hv => by rw [hv]; exact hr) ⟨_, h, rfl⟩)
noncomputable def f_Mo_move_J79_1 (v1 : Int32) (v2 : Int32) (v3 : Int32) (v4 : Int32) (w0 : Int32) (w1 : Int32) (s : St) : Option ((Int32 × St) ⊕ (Int32 × St)) :=
  gd w1 256 <|
  lt (uI s 47 (w1 : Int32).toNatClampNeg w0) fun s6 =>
  some (.inl ((v4 + 1), s6))
set_option maxHeartbeats 4000000 in
set_option maxRecDepth 100000 in
theorem t_Mo_move_J79_1 (G : GG) (hR : gR G = rmx 0 0) (hL : gL G = 6) (C : Cx SM G cX12_move RX12) {Acc : ((Int32 × St) ⊕ (Int32 × St)) → Prop}  (v1 : Int32) (v2 : Int32) (v3 : Int32) (v4 : Int32) (w0 : Int32) (w1 : Int32) (s : St) (hb1 : ∀ (a4 : Int32) (t : St), Acc (.inl (a4, t)) → KK SM G 3 [(0, .ref (ad G 0)), (1, .int v1), (2, .int v2), (3, .int v3), (4, .int a4)] [] t) (hx1 : ∀ (a4 : Int32) (t : St), Acc (.inr (a4, t)) → KK SM G 86 [(0, .ref (ad G 0)), (1, .int v1), (2, .int v2), (3, .int v3), (4, .int a4)] [] t) : JJ SM G Acc (f_Mo_move_J79_1 v1 v2 v3 v4 w0 w1 s) 79 [(0, .ref (ad G 0)), (1, .int v1), (2, .int v2), (3, .int v3), (4, .int v4)] [.int w0, .int w1, .ref (ad G 47)] s := by
  unfold f_Mo_move_J79_1
  refine jr_iast C oS_47.1 oS_47.2.1 oS_47.2.2 dX12_move_79 (jr_ltS fun s6 => ?_)
  refine jr_iinc C 4 rfl ii_1 (lv' := [(4, .int (v4 + 1)), (0, .ref (ad G 0)), (1, .int v1), (2, .int v2), (3, .int v3)]) (ltL hL rfl) rfl dX12_move_80 ?_
  refine jr_goto C (tgt := 3) dX12_move_83 (by decide) ?_
  refine jr_lv [1, 2, 3, 4, 0] rfl ?_
  exact jr_end (fun h => hb1 (v4 + 1) s6 h)
noncomputable def f_Mo_move_L3 (v1 : Int32) (v2 : Int32) (v3 : Int32) (v4 : Int32) (s : St) : Option ((Int32 × St) ⊕ (Int32 × St)) :=
  if v3 ≤ v4 then
  some (.inr (v4, s))
  else
  lt (((4096 * (s.1 0 28)) + v1) + v4) fun x2 =>
  gd x2 8192 <|
  gd v4 256 <|
  lt (uI s 45 (v4 : Int32).toNatClampNeg (s.1 16 (x2 : Int32).toNatClampNeg)) fun s3 =>
  gd x2 8192 <|
  gd v4 256 <|
  lt (uI s3 46 (v4 : Int32).toNatClampNeg (s3.1 17 (x2 : Int32).toNatClampNeg)) fun s4 =>
  gd x2 8192 <|
  if (s4.1 17 (x2 : Int32).toNatClampNeg) = 0 then
  f_Mo_move_J79_1 v1 v2 v3 v4 0 v4 s4
  else
  gd x2 8192 <|
  f_Mo_move_J79_1 v1 v2 v3 v4 (s4.1 18 (x2 : Int32).toNatClampNeg) v4 s4
set_option maxHeartbeats 4000000 in
set_option maxRecDepth 100000 in
theorem t_Mo_move_L3 (G : GG) (hR : gR G = rmx 0 0) (hL : gL G = 6) (C : Cx SM G cX12_move RX12) {Acc : ((Int32 × St) ⊕ (Int32 × St)) → Prop}  (v1 : Int32) (v2 : Int32) (v3 : Int32) (v4 : Int32) (s : St) (hb1 : ∀ (a4 : Int32) (t : St), Acc (.inl (a4, t)) → KK SM G 3 [(0, .ref (ad G 0)), (1, .int v1), (2, .int v2), (3, .int v3), (4, .int a4)] [] t) (hx1 : ∀ (a4 : Int32) (t : St), Acc (.inr (a4, t)) → KK SM G 86 [(0, .ref (ad G 0)), (1, .int v1), (2, .int v2), (3, .int v3), (4, .int a4)] [] t) : JJ SM G Acc (f_Mo_move_L3 v1 v2 v3 v4 s) 3 [(0, .ref (ad G 0)), (1, .int v1), (2, .int v2), (3, .int v3), (4, .int v4)] [] s := by
  unfold f_Mo_move_L3
  refine jr_iload C 4 rfl dX12_move_3 ?_
  refine jr_iload_n C 3 rfl rfl dX12_move_5 ?_
  refine jr_icmp_ge C (tgt := 86) dX12_move_6 (by decide) (fun h1 => ?_) (fun h1 => ?_)
  · refine jo_pos h1 ?_
    exact jr_end (fun h => hx1 v4 s h)
  refine jo_neg h1 ?_
  refine jr_sipush C sp_4096 dX12_move_9 ?_
  refine jr_aload_n C 0 rfl rfl dX12_move_12 ?_
  refine jr_getI C FX_10 28 oS_0.1 oS_0.2 ff_10_28.1 ff_10_28.2 fl_X12_394 dX12_move_13 ?_
  refine jr_imul C dX12_move_16 ?_
  refine jr_iload_n C 1 rfl rfl dX12_move_17 ?_
  refine jr_iadd C dX12_move_18 ?_
  refine jr_iload C 4 rfl dX12_move_19 ?_
  refine jr_iadd C dX12_move_21 ?_
  refine jr_ltI (fun x2 => ?_)
  refine jr_istore C (lv' := [(5, .int x2), (0, .ref (ad G 0)), (1, .int v1), (2, .int v2), (3, .int v3), (4, .int v4)]) (ltL hL rfl) rfl dX12_move_22 ?_
  refine jr_aload_n C 1 rfl rfl dX12_move_24 ?_
  refine jr_getR C FX_10 70 oS_0.1 oS_0.2 ff_10_70.1 ff_10_70.2 rfl fl_X12_151 dX12_move_25 ?_
  refine jr_iload C 5 rfl dX12_move_28 ?_
  refine jr_aload_n C 1 rfl rfl dX12_move_30 ?_
  refine jr_getR C FX_10 33 oS_0.1 oS_0.2 ff_10_33.1 ff_10_33.2 rfl fl_X12_64 dX12_move_31 ?_
  refine jr_iload C 0 rfl dX12_move_34 ?_
  refine jr_iald C oS_16.1 oS_16.2.1 oS_16.2.2 dX12_move_36 ?_
  refine jr_iast C oS_45.1 oS_45.2.1 oS_45.2.2 dX12_move_37 (jr_ltS fun s3 => ?_)
  refine jr_aload_n C 1 rfl rfl dX12_move_38 ?_
  refine jr_getR C FX_10 71 oS_0.1 oS_0.2 ff_10_71.1 ff_10_71.2 rfl fl_X12_154 dX12_move_39 ?_
  refine jr_iload C 5 rfl dX12_move_42 ?_
  refine jr_aload_n C 1 rfl rfl dX12_move_44 ?_
  refine jr_getR C FX_10 34 oS_0.1 oS_0.2 ff_10_34.1 ff_10_34.2 rfl fl_X12_67 dX12_move_45 ?_
  refine jr_iload C 0 rfl dX12_move_48 ?_
  refine jr_iald C oS_17.1 oS_17.2.1 oS_17.2.2 dX12_move_50 ?_
  refine jr_iast C oS_46.1 oS_46.2.1 oS_46.2.2 dX12_move_51 (jr_ltS fun s4 => ?_)
  refine jr_aload_n C 1 rfl rfl dX12_move_52 ?_
  refine jr_getR C FX_10 72 oS_0.1 oS_0.2 ff_10_72.1 ff_10_72.2 rfl fl_X12_157 dX12_move_53 ?_
  refine jr_iload C 5 rfl dX12_move_56 ?_
  refine jr_aload_n C 1 rfl rfl dX12_move_58 ?_
  refine jr_getR C FX_10 34 oS_0.1 oS_0.2 ff_10_34.1 ff_10_34.2 rfl fl_X12_67 dX12_move_59 ?_
  refine jr_iload C 0 rfl dX12_move_62 ?_
  refine jr_iald C oS_17.1 oS_17.2.1 oS_17.2.2 dX12_move_64 ?_
  refine jr_if_eq C (tgt := 78) dX12_move_65 (by decide) (fun h5 => ?_) (fun h5 => ?_)
  · refine jo_pos h5 ?_
    refine jr_iconst C ic_0 dX12_move_78 ?_
    refine jr_lv [1, 2, 3, 4, 5] rfl ?_
    exact t_Mo_move_J79_1 G hR hL C  v1 v2 v3 v4 0 v4 s4 hb1 hx1
  refine jo_neg h5 ?_
  refine jr_aload_n C 1 rfl rfl dX12_move_68 ?_
  refine jr_getR C FX_10 35 oS_0.1 oS_0.2 ff_10_35.1 ff_10_35.2 rfl fl_X12_70 dX12_move_69 ?_
  refine jr_iload C 0 rfl dX12_move_72 ?_
  refine jr_iald C oS_18.1 oS_18.2.1 oS_18.2.2 dX12_move_74 ?_
  refine jr_goto C (tgt := 79) dX12_move_75 (by decide) ?_
  refine jr_lv [1, 2, 3, 4, 5] rfl ?_
  exact t_Mo_move_J79_1 G hR hL C  v1 v2 v3 v4 (s4.1 18 (x2 : Int32).toNatClampNeg) v4 s4 hb1 hx1
noncomputable def f_Mo_move_L89 (v2 : Int32) (v3 : Int32) (v4 : Int32) (s : St) : Option ((Int32 × St) ⊕ (Int32 × St)) :=
  if v3 ≤ v4 then
  some (.inr (v4, s))
  else
  lt (((4096 * (s.1 0 28)) + v2) + v4) fun x9 =>
  gd v4 256 <|
  gd x9 8192 <|
  lt (uI s 16 (x9 : Int32).toNatClampNeg (s.1 45 (v4 : Int32).toNatClampNeg)) fun s10 =>
  gd v4 256 <|
  gd x9 8192 <|
  lt (uI s10 17 (x9 : Int32).toNatClampNeg (s10.1 46 (v4 : Int32).toNatClampNeg)) fun s11 =>
  gd v4 256 <|
  gd x9 8192 <|
  lt (uI s11 18 (x9 : Int32).toNatClampNeg (s11.1 47 (v4 : Int32).toNatClampNeg)) fun s12 =>
  some (.inl ((v4 + 1), s12))
set_option maxHeartbeats 4000000 in
set_option maxRecDepth 100000 in
theorem t_Mo_move_L89 (G : GG) (hR : gR G = rmx 0 0) (hL : gL G = 6) (C : Cx SM G cX12_move RX12) {Acc : ((Int32 × St) ⊕ (Int32 × St)) → Prop}  (v2 : Int32) (v3 : Int32) (v4 : Int32) (s : St) (hb1 : ∀ (a4 : Int32) (t : St), Acc (.inl (a4, t)) → KK SM G 89 [(0, .ref (ad G 0)), (2, .int v2), (3, .int v3), (4, .int a4)] [] t) (hx1 : ∀ (a4 : Int32) (t : St), Acc (.inr (a4, t)) → KK SM G 158 [(0, .ref (ad G 0)), (2, .int v2), (3, .int v3), (4, .int a4)] [] t) : JJ SM G Acc (f_Mo_move_L89 v2 v3 v4 s) 89 [(0, .ref (ad G 0)), (2, .int v2), (3, .int v3), (4, .int v4)] [] s := by
  unfold f_Mo_move_L89
  refine jr_iload C 3 rfl dX12_move_89 ?_
  refine jr_iload_n C 2 rfl rfl dX12_move_91 ?_
  refine jr_icmp_ge C (tgt := 158) dX12_move_92 (by decide) (fun h8 => ?_) (fun h8 => ?_)
  · refine jo_pos h8 ?_
    exact jr_end (fun h => hx1 v4 s h)
  refine jo_neg h8 ?_
  refine jr_sipush C sp_4096 dX12_move_95 ?_
  refine jr_aload_n C 0 rfl rfl dX12_move_98 ?_
  refine jr_getI C FX_10 28 oS_0.1 oS_0.2 ff_10_28.1 ff_10_28.2 fl_X12_394 dX12_move_99 ?_
  refine jr_imul C dX12_move_102 ?_
  refine jr_iload_n C 1 rfl rfl dX12_move_103 ?_
  refine jr_iadd C dX12_move_104 ?_
  refine jr_iload C 3 rfl dX12_move_105 ?_
  refine jr_iadd C dX12_move_107 ?_
  refine jr_ltI (fun x9 => ?_)
  refine jr_istore C (lv' := [(5, .int x9), (0, .ref (ad G 0)), (2, .int v2), (3, .int v3), (4, .int v4)]) (ltL hL rfl) rfl dX12_move_108 ?_
  refine jr_aload_n C 1 rfl rfl dX12_move_110 ?_
  refine jr_getR C FX_10 33 oS_0.1 oS_0.2 ff_10_33.1 ff_10_33.2 rfl fl_X12_64 dX12_move_111 ?_
  refine jr_iload C 0 rfl dX12_move_114 ?_
  refine jr_aload_n C 1 rfl rfl dX12_move_116 ?_
  refine jr_getR C FX_10 70 oS_0.1 oS_0.2 ff_10_70.1 ff_10_70.2 rfl fl_X12_151 dX12_move_117 ?_
  refine jr_iload C 4 rfl dX12_move_120 ?_
  refine jr_iald C oS_45.1 oS_45.2.1 oS_45.2.2 dX12_move_122 ?_
  refine jr_iast C oS_16.1 oS_16.2.1 oS_16.2.2 dX12_move_123 (jr_ltS fun s10 => ?_)
  refine jr_aload_n C 1 rfl rfl dX12_move_124 ?_
  refine jr_getR C FX_10 34 oS_0.1 oS_0.2 ff_10_34.1 ff_10_34.2 rfl fl_X12_67 dX12_move_125 ?_
  refine jr_iload C 0 rfl dX12_move_128 ?_
  refine jr_aload_n C 1 rfl rfl dX12_move_130 ?_
  refine jr_getR C FX_10 71 oS_0.1 oS_0.2 ff_10_71.1 ff_10_71.2 rfl fl_X12_154 dX12_move_131 ?_
  refine jr_iload C 4 rfl dX12_move_134 ?_
  refine jr_iald C oS_46.1 oS_46.2.1 oS_46.2.2 dX12_move_136 ?_
  refine jr_iast C oS_17.1 oS_17.2.1 oS_17.2.2 dX12_move_137 (jr_ltS fun s11 => ?_)
  refine jr_aload_n C 1 rfl rfl dX12_move_138 ?_
  refine jr_getR C FX_10 35 oS_0.1 oS_0.2 ff_10_35.1 ff_10_35.2 rfl fl_X12_70 dX12_move_139 ?_
  refine jr_iload C 0 rfl dX12_move_142 ?_
  refine jr_aload_n C 1 rfl rfl dX12_move_144 ?_
  refine jr_getR C FX_10 72 oS_0.1 oS_0.2 ff_10_72.1 ff_10_72.2 rfl fl_X12_157 dX12_move_145 ?_
  refine jr_iload C 4 rfl dX12_move_148 ?_
  refine jr_iald C oS_47.1 oS_47.2.1 oS_47.2.2 dX12_move_150 ?_
  refine jr_iast C oS_18.1 oS_18.2.1 oS_18.2.2 dX12_move_151 (jr_ltS fun s12 => ?_)
  refine jr_iinc C 4 rfl ii_1 (lv' := [(4, .int (v4 + 1)), (5, .int x9), (0, .ref (ad G 0)), (2, .int v2), (3, .int v3)]) (ltL hL rfl) rfl dX12_move_152 ?_
  refine jr_goto C (tgt := 89) dX12_move_155 (by decide) ?_
  refine jr_lv [2, 3, 4, 0] rfl ?_
  exact jr_end (fun h => hb1 (v4 + 1) s12 h)
noncomputable def f_Mo_move (v1 : Int32) (v2 : Int32) (v3 : Int32) (s : St) : Option St :=
  (wh (fun a : (Int32 × St) => f_Mo_move_L3 v1 v2 v3 a.1 a.2) (0, s)).bind (fun b7 =>
  (wh (fun a : (Int32 × St) => f_Mo_move_L89 v2 v3 a.1 a.2) (0, b7.2)).bind (fun b13 =>
  some (b13.2)))
set_option maxHeartbeats 4000000 in
set_option maxRecDepth 100000 in
theorem t_Mo_move (G : GG) (hR : gR G = rmx 0 0) (hL : gL G = 6) (C : Cx SM G cX12_move RX12) {Acc : St → Prop}  (v1 : Int32) (v2 : Int32) (v3 : Int32) (s : St) (hr : ∀ v : St, Acc v → RtV SM G cX12_move v) : JJ SM G Acc (f_Mo_move v1 v2 v3 s) 0 [(0, .ref (ad G 0)), (1, .int v1), (2, .int v2), (3, .int v3)] [] s := by
  unfold f_Mo_move
  refine jr_iconst C ic_0 dX12_move_0 ?_
  refine jr_istore C (lv' := [(4, .int 0), (0, .ref (ad G 0)), (1, .int v1), (2, .int v2), (3, .int v3)]) (ltL hL rfl) rfl dX12_move_1 ?_
  refine jr_lv [1, 2, 3, 4, 0] rfl ?_
  refine jr_loopB (pc := 3) (pcx := 86) (f := fun a : (Int32 × St) => f_Mo_move_L3 v1 v2 v3 a.1 a.2) (fun a : (Int32 × St) => [(0, .ref (ad G 0)), (1, .int v1), (2, .int v2), (3, .int v3), (4, .int (a.1))]) (fun a : (Int32 × St) => a.2) (0, s) (fun a => t_Mo_move_L3 G hR hL C  v1 v2 v3 a.1 a.2 (fun _ _ h => h) (fun _ _ h => h)) (fun b7 => ?_)
  refine jr_iconst C ic_0 dX12_move_86 ?_
  refine jr_istore C (lv' := [(4, .int 0), (0, .ref (ad G 0)), (1, .int v1), (2, .int v2), (3, .int v3)]) (ltL hL rfl) rfl dX12_move_87 ?_
  refine jr_lv [1, 3, 4, 0] rfl ?_
  refine jr_loopB (pc := 89) (pcx := 158) (f := fun a : (Int32 × St) => f_Mo_move_L89 v2 v3 a.1 a.2) (fun a : (Int32 × St) => [(0, .ref (ad G 0)), (2, .int v2), (3, .int v3), (4, .int (a.1))]) (fun a : (Int32 × St) => a.2) (0, b7.2) (fun a => t_Mo_move_L89 G hR hL C  v2 v3 a.1 a.2 (fun _ _ h => h) (fun _ _ h => h)) (fun b13 => ?_)
  exact jr_end (fun h => hr (b13.2) h _ _ dX12_move_158)
set_option maxRecDepth 100000 in
theorem c_Mo_move (l : Launch)  (v1 : Int32) (v2 : Int32) (v3 : Int32) (s : St) {q : St} (h : f_Mo_move v1 v2 v3 s = some q) : CT SM l yX12_move cX12_move 6 none 0 0 (fun a => [.ref (a 0), .int v1, .int v2, .int v3]) s q (fun _ => none) :=
  ct_V okX_M (by decide) (fun _ => Nat.le_of_ble_eq_true rfl) (fun G hl hR hL C hr => t_Mo_move G hR hL C (Acc := fun v => v = q)  v1 v2 v3 s (fun v hv => by rw [hv]; exact hr) ⟨_, h, rfl⟩)
noncomputable def f_Mo_copy_J81  (s : St) : Option St :=
  (f_Mo_trap 4 s).bind fun q13 =>
  some q13
set_option maxHeartbeats 4000000 in
set_option maxRecDepth 100000 in
theorem t_Mo_copy_J81 (G : GG) (hR : gR G = rmx 3 66) (hL : gL G = 5) (C : Cx SM G cX12_copy RX12) {Acc : St → Prop}   (s : St) (hr : ∀ v : St, Acc v → RtV SM G cX12_copy v) : JJ SM G Acc (f_Mo_copy_J81 s) 81 [(0, .ref (ad G 0))] [] s := by
  unfold f_Mo_copy_J81
  refine jr_aload_n C 0 rfl rfl dX12_copy_81 ?_
  refine jr_iconst C ic_4 dX12_copy_82 ?_
  refine jr_bind (fun q13 e14 => ?_)
  refine jr_callVV C FX_10 km_X12_423 oS_0.1 oS_0.2 (rk hR rfl) (c_Mo_trap (gl G) 4 s e14) rfl rfl rfl (Nat.le_of_ble_eq_true rfl) dX12_copy_83 ?_
  exact jr_end (fun h => hr q13 h _ _ dX12_copy_86)
noncomputable def f_Mo_copy_J70 (v1 : Int32) (v2 : Int32) (s : St) : Option St :=
  if v2 < 0 then
  f_Mo_copy_J81 s
  else
  if v2 ≤ 256 then
  ((f_Mo_value v1 s).bind fun q16 =>
  (f_Mo_value (v1 + 1) s).bind fun q18 =>
  (f_Mo_areThere q18 v2 s).bind fun q20 =>
  if q20.1 = 0 then
  some (q20.2)
  else
  (f_Mo_areThere q16 v2 (q20.2)).bind fun q23 =>
  if q23.1 = 0 then
  some (q23.2)
  else
  (f_Mo_move q18 q16 v2 (q23.2)).bind fun q26 =>
  some q26)
  else
  f_Mo_copy_J81 s
set_option maxHeartbeats 4000000 in
set_option maxRecDepth 100000 in
theorem t_Mo_copy_J70 (G : GG) (hR : gR G = rmx 3 66) (hL : gL G = 5) (C : Cx SM G cX12_copy RX12) {Acc : St → Prop}  (v1 : Int32) (v2 : Int32) (s : St) (hr : ∀ v : St, Acc v → RtV SM G cX12_copy v) : JJ SM G Acc (f_Mo_copy_J70 v1 v2 s) 70 [(0, .ref (ad G 0)), (1, .int v1), (2, .int v2)] [] s := by
  unfold f_Mo_copy_J70
  refine jr_iload_n C 2 rfl rfl dX12_copy_70 ?_
  refine jr_if_lt C (tgt := 81) dX12_copy_71 (by decide) (fun h12 => ?_) (fun h12 => ?_)
  · refine jo_pos h12 ?_
    refine jr_lv [0] rfl ?_
    exact t_Mo_copy_J81 G hR hL C   s hr
  refine jo_neg h12 ?_
  refine jr_iload_n C 2 rfl rfl dX12_copy_74 ?_
  refine jr_sipush C sp_256 dX12_copy_75 ?_
  refine jr_icmp_le C (tgt := 87) dX12_copy_78 (by decide) (fun h15 => ?_) (fun h15 => ?_)
  · refine jo_pos h15 ?_
    refine jr_aload_n C 0 rfl rfl dX12_copy_87 ?_
    refine jr_iload_n C 1 rfl rfl dX12_copy_88 ?_
    refine jr_bind (fun q16 e17 => ?_)
    refine jr_callVI C FX_10 km_X12_451 oS_0.1 oS_0.2 (rk hR rfl) (c_Mo_value (gl G) v1 s e17) rfl rfl rfl (Nat.le_of_ble_eq_true rfl) dX12_copy_89 ?_
    refine jr_istore_n C (lv' := [(3, .int q16), (0, .ref (ad G 0)), (1, .int v1), (2, .int v2)]) (ltL hL rfl) rfl rfl dX12_copy_92 ?_
    refine jr_aload_n C 1 rfl rfl dX12_copy_93 ?_
    refine jr_iload_n C 2 rfl rfl dX12_copy_94 ?_
    refine jr_iconst C ic_1 dX12_copy_95 ?_
    refine jr_iadd C dX12_copy_96 ?_
    refine jr_bind (fun q18 e19 => ?_)
    refine jr_callVI C FX_10 km_X12_451 oS_0.1 oS_0.2 (rk hR rfl) (c_Mo_value (gl G) (v1 + 1) s e19) rfl rfl rfl (Nat.le_of_ble_eq_true rfl) dX12_copy_97 ?_
    refine jr_istore C (lv' := [(4, .int q18), (3, .int q16), (0, .ref (ad G 0)), (1, .int v1), (2, .int v2)]) (ltL hL rfl) rfl dX12_copy_100 ?_
    refine jr_aload_n C 2 rfl rfl dX12_copy_102 ?_
    refine jr_iload C 0 rfl dX12_copy_103 ?_
    refine jr_iload_n C 4 rfl rfl dX12_copy_105 ?_
    refine jr_bind (fun q20 e21 => ?_)
    refine jr_callVI C FX_10 km_X12_486 oS_0.1 oS_0.2 (rk hR rfl) (c_Mo_areThere (gl G) q18 v2 s e21) rfl rfl rfl (Nat.le_of_ble_eq_true rfl) dX12_copy_106 ?_
    refine jr_if_eq C (tgt := 129) dX12_copy_109 (by decide) (fun h22 => ?_) (fun h22 => ?_)
    · refine jo_pos h22 ?_
      exact jr_end (fun h => hr (q20.2) h _ _ dX12_copy_129)
    refine jo_neg h22 ?_
    refine jr_aload_n C 2 rfl rfl dX12_copy_112 ?_
    refine jr_iload_n C 1 rfl rfl dX12_copy_113 ?_
    refine jr_iload_n C 4 rfl rfl dX12_copy_114 ?_
    refine jr_bind (fun q23 e24 => ?_)
    refine jr_callVI C FX_10 km_X12_486 oS_0.1 oS_0.2 (rk hR rfl) (c_Mo_areThere (gl G) q16 v2 (q20.2) e24) rfl rfl rfl (Nat.le_of_ble_eq_true rfl) dX12_copy_115 ?_
    refine jr_if_eq C (tgt := 129) dX12_copy_118 (by decide) (fun h25 => ?_) (fun h25 => ?_)
    · refine jo_pos h25 ?_
      exact jr_end (fun h => hr (q23.2) h _ _ dX12_copy_129)
    refine jo_neg h25 ?_
    refine jr_aload_n C 2 rfl rfl dX12_copy_121 ?_
    refine jr_iload C 0 rfl dX12_copy_122 ?_
    refine jr_iload_n C 1 rfl rfl dX12_copy_124 ?_
    refine jr_iload_n C 4 rfl rfl dX12_copy_125 ?_
    refine jr_bind (fun q26 e27 => ?_)
    refine jr_callVV C FX_10 km_X12_497 oS_0.1 oS_0.2 (rk hR rfl) (c_Mo_move (gl G) q18 q16 v2 (q23.2) e27) rfl rfl rfl (Nat.le_of_ble_eq_true rfl) dX12_copy_126 ?_
    exact jr_end (fun h => hr q26 h _ _ dX12_copy_129)
  refine jo_neg h15 ?_
  refine jr_lv [0] rfl ?_
  exact t_Mo_copy_J81 G hR hL C   s hr
noncomputable def f_Mo_copy_J48 (v1 : Int32) (v2 : Int32) (s : St) : Option St :=
  (f_Mo_shade (v1 + 2) s).bind fun q9 =>
  if q9 = 0 then
  f_Mo_copy_J70 v1 v2 s
  else
  (f_Mo_origin (v1 + 2) s).bind fun q28 =>
  (f_Mo_told 5 q28 s).bind fun q30 =>
  f_Mo_copy_J70 v1 v2 q30
set_option maxHeartbeats 4000000 in
set_option maxRecDepth 100000 in
theorem t_Mo_copy_J48 (G : GG) (hR : gR G = rmx 3 66) (hL : gL G = 5) (C : Cx SM G cX12_copy RX12) {Acc : St → Prop}  (v1 : Int32) (v2 : Int32) (s : St) (hr : ∀ v : St, Acc v → RtV SM G cX12_copy v) : JJ SM G Acc (f_Mo_copy_J48 v1 v2 s) 48 [(0, .ref (ad G 0)), (1, .int v1), (2, .int v2)] [] s := by
  unfold f_Mo_copy_J48
  refine jr_aload_n C 0 rfl rfl dX12_copy_48 ?_
  refine jr_iload_n C 1 rfl rfl dX12_copy_49 ?_
  refine jr_iconst C ic_2 dX12_copy_50 ?_
  refine jr_iadd C dX12_copy_51 ?_
  refine jr_bind (fun q9 e10 => ?_)
  refine jr_callVI C FX_10 km_X12_454 oS_0.1 oS_0.2 (rk hR rfl) (c_Mo_shade (gl G) (v1 + 2) s e10) rfl rfl rfl (Nat.le_of_ble_eq_true rfl) dX12_copy_52 ?_
  refine jr_if_eq C (tgt := 70) dX12_copy_55 (by decide) (fun h11 => ?_) (fun h11 => ?_)
  · refine jo_pos h11 ?_
    exact t_Mo_copy_J70 G hR hL C  v1 v2 s hr
  refine jo_neg h11 ?_
  refine jr_aload_n C 0 rfl rfl dX12_copy_58 ?_
  refine jr_iconst C ic_5 dX12_copy_59 ?_
  refine jr_aload_n C 0 rfl rfl dX12_copy_60 ?_
  refine jr_iload_n C 1 rfl rfl dX12_copy_61 ?_
  refine jr_iconst C ic_2 dX12_copy_62 ?_
  refine jr_iadd C dX12_copy_63 ?_
  refine jr_bind (fun q28 e29 => ?_)
  refine jr_callVI C FX_10 km_X12_457 oS_0.1 oS_0.2 (rk hR rfl) (c_Mo_origin (gl G) (v1 + 2) s e29) rfl rfl rfl (Nat.le_of_ble_eq_true rfl) dX12_copy_64 ?_
  refine jr_bind (fun q30 e31 => ?_)
  refine jr_callVV C FX_10 km_X12_460 oS_0.1 oS_0.2 (rk hR rfl) (c_Mo_told (gl G) 5 q28 s e31) rfl rfl rfl (Nat.le_of_ble_eq_true rfl) dX12_copy_67 ?_
  exact t_Mo_copy_J70 G hR hL C  v1 v2 q30 hr
noncomputable def f_Mo_copy_J26 (v1 : Int32) (v2 : Int32) (s : St) : Option St :=
  (f_Mo_shade (v1 + 1) s).bind fun q6 =>
  if q6 = 0 then
  f_Mo_copy_J48 v1 v2 s
  else
  (f_Mo_origin (v1 + 1) s).bind fun q32 =>
  (f_Mo_told 2 q32 s).bind fun q34 =>
  f_Mo_copy_J48 v1 v2 q34
set_option maxHeartbeats 4000000 in
set_option maxRecDepth 100000 in
theorem t_Mo_copy_J26 (G : GG) (hR : gR G = rmx 3 66) (hL : gL G = 5) (C : Cx SM G cX12_copy RX12) {Acc : St → Prop}  (v1 : Int32) (v2 : Int32) (s : St) (hr : ∀ v : St, Acc v → RtV SM G cX12_copy v) : JJ SM G Acc (f_Mo_copy_J26 v1 v2 s) 26 [(0, .ref (ad G 0)), (1, .int v1), (2, .int v2)] [] s := by
  unfold f_Mo_copy_J26
  refine jr_aload_n C 0 rfl rfl dX12_copy_26 ?_
  refine jr_iload_n C 1 rfl rfl dX12_copy_27 ?_
  refine jr_iconst C ic_1 dX12_copy_28 ?_
  refine jr_iadd C dX12_copy_29 ?_
  refine jr_bind (fun q6 e7 => ?_)
  refine jr_callVI C FX_10 km_X12_454 oS_0.1 oS_0.2 (rk hR rfl) (c_Mo_shade (gl G) (v1 + 1) s e7) rfl rfl rfl (Nat.le_of_ble_eq_true rfl) dX12_copy_30 ?_
  refine jr_if_eq C (tgt := 48) dX12_copy_33 (by decide) (fun h8 => ?_) (fun h8 => ?_)
  · refine jo_pos h8 ?_
    exact t_Mo_copy_J48 G hR hL C  v1 v2 s hr
  refine jo_neg h8 ?_
  refine jr_aload_n C 0 rfl rfl dX12_copy_36 ?_
  refine jr_iconst C ic_2 dX12_copy_37 ?_
  refine jr_aload_n C 0 rfl rfl dX12_copy_38 ?_
  refine jr_iload_n C 1 rfl rfl dX12_copy_39 ?_
  refine jr_iconst C ic_1 dX12_copy_40 ?_
  refine jr_iadd C dX12_copy_41 ?_
  refine jr_bind (fun q32 e33 => ?_)
  refine jr_callVI C FX_10 km_X12_457 oS_0.1 oS_0.2 (rk hR rfl) (c_Mo_origin (gl G) (v1 + 1) s e33) rfl rfl rfl (Nat.le_of_ble_eq_true rfl) dX12_copy_42 ?_
  refine jr_bind (fun q34 e35 => ?_)
  refine jr_callVV C FX_10 km_X12_460 oS_0.1 oS_0.2 (rk hR rfl) (c_Mo_told (gl G) 2 q32 s e35) rfl rfl rfl (Nat.le_of_ble_eq_true rfl) dX12_copy_45 ?_
  exact t_Mo_copy_J48 G hR hL C  v1 v2 q34 hr
noncomputable def f_Mo_copy (v1 : Int32) (s : St) : Option St :=
  (f_Mo_value (v1 + 2) s).bind fun q1 =>
  (f_Mo_shade v1 s).bind fun q3 =>
  if q3 = 0 then
  f_Mo_copy_J26 v1 q1 s
  else
  (f_Mo_origin v1 s).bind fun q36 =>
  (f_Mo_told 2 q36 s).bind fun q38 =>
  f_Mo_copy_J26 v1 q1 q38
set_option maxHeartbeats 4000000 in
set_option maxRecDepth 100000 in
theorem t_Mo_copy (G : GG) (hR : gR G = rmx 3 66) (hL : gL G = 5) (C : Cx SM G cX12_copy RX12) {Acc : St → Prop}  (v1 : Int32) (s : St) (hr : ∀ v : St, Acc v → RtV SM G cX12_copy v) : JJ SM G Acc (f_Mo_copy v1 s) 0 [(0, .ref (ad G 0)), (1, .int v1)] [] s := by
  unfold f_Mo_copy
  refine jr_aload_n C 0 rfl rfl dX12_copy_0 ?_
  refine jr_iload_n C 1 rfl rfl dX12_copy_1 ?_
  refine jr_iconst C ic_2 dX12_copy_2 ?_
  refine jr_iadd C dX12_copy_3 ?_
  refine jr_bind (fun q1 e2 => ?_)
  refine jr_callVI C FX_10 km_X12_451 oS_0.1 oS_0.2 (rk hR rfl) (c_Mo_value (gl G) (v1 + 2) s e2) rfl rfl rfl (Nat.le_of_ble_eq_true rfl) dX12_copy_4 ?_
  refine jr_istore_n C (lv' := [(2, .int q1), (0, .ref (ad G 0)), (1, .int v1)]) (ltL hL rfl) rfl rfl dX12_copy_7 ?_
  refine jr_aload_n C 1 rfl rfl dX12_copy_8 ?_
  refine jr_iload_n C 2 rfl rfl dX12_copy_9 ?_
  refine jr_bind (fun q3 e4 => ?_)
  refine jr_callVI C FX_10 km_X12_454 oS_0.1 oS_0.2 (rk hR rfl) (c_Mo_shade (gl G) v1 s e4) rfl rfl rfl (Nat.le_of_ble_eq_true rfl) dX12_copy_10 ?_
  refine jr_if_eq C (tgt := 26) dX12_copy_13 (by decide) (fun h5 => ?_) (fun h5 => ?_)
  · refine jo_pos h5 ?_
    refine jr_lv [1, 2, 0] rfl ?_
    exact t_Mo_copy_J26 G hR hL C  v1 q1 s hr
  refine jo_neg h5 ?_
  refine jr_aload_n C 1 rfl rfl dX12_copy_16 ?_
  refine jr_iconst C ic_2 dX12_copy_17 ?_
  refine jr_aload_n C 1 rfl rfl dX12_copy_18 ?_
  refine jr_iload_n C 2 rfl rfl dX12_copy_19 ?_
  refine jr_bind (fun q36 e37 => ?_)
  refine jr_callVI C FX_10 km_X12_457 oS_0.1 oS_0.2 (rk hR rfl) (c_Mo_origin (gl G) v1 s e37) rfl rfl rfl (Nat.le_of_ble_eq_true rfl) dX12_copy_20 ?_
  refine jr_bind (fun q38 e39 => ?_)
  refine jr_callVV C FX_10 km_X12_460 oS_0.1 oS_0.2 (rk hR rfl) (c_Mo_told (gl G) 2 q36 s e39) rfl rfl rfl (Nat.le_of_ble_eq_true rfl) dX12_copy_23 ?_
  refine jr_lv [1, 2, 0] rfl ?_
  exact t_Mo_copy_J26 G hR hL C  v1 q1 q38 hr
set_option maxRecDepth 100000 in
theorem c_Mo_copy (l : Launch)  (v1 : Int32) (s : St) {q : St} (h : f_Mo_copy v1 s = some q) : CT SM l yX12_copy cX12_copy 5 none 3 66 (fun a => [.ref (a 0), .int v1]) s q (fun _ => none) :=
  ct_V okX_M (by decide) (fun _ => Nat.le_of_ble_eq_true rfl) (fun G hl hR hL C hr => t_Mo_copy G hR hL C (Acc := fun v => v = q)  v1 s (fun v hv => by rw [hv]; exact hr) ⟨_, h, rfl⟩)
noncomputable def f_Mo_fill_J59  (s : St) : Option St :=
  (f_Mo_trap 4 s).bind fun q10 =>
  some q10
set_option maxHeartbeats 4000000 in
set_option maxRecDepth 100000 in
theorem t_Mo_fill_J59 (G : GG) (hR : gR G = rmx 4 93) (hL : gL G = 5) (C : Cx SM G cX12_fill RX12) {Acc : St → Prop}   (s : St) (hr : ∀ v : St, Acc v → RtV SM G cX12_fill v) : JJ SM G Acc (f_Mo_fill_J59 s) 59 [(0, .ref (ad G 0))] [] s := by
  unfold f_Mo_fill_J59
  refine jr_aload_n C 0 rfl rfl dX12_fill_59 ?_
  refine jr_iconst C ic_4 dX12_fill_60 ?_
  refine jr_bind (fun q10 e11 => ?_)
  refine jr_callVV C FX_10 km_X12_423 oS_0.1 oS_0.2 (rk hR rfl) (c_Mo_trap (gl G) 4 s e11) rfl rfl rfl (Nat.le_of_ble_eq_true rfl) dX12_fill_61 ?_
  exact jr_end (fun h => hr q10 h _ _ dX12_fill_64)
noncomputable def f_Mo_fill_L84 (v1 : Int32) (v2 : Int32) (v3 : Int32) (v4 : Int32) (s : St) : Option ((Int32 × St) ⊕ (Int32 × St)) :=
  if v2 ≤ v4 then
  some (.inr (v4, s))
  else
  (f_Mo_value (v1 + 1) s).bind fun q19 =>
  (f_Mo_shade (v1 + 1) s).bind fun q21 =>
  (f_Mo_origin (v1 + 1) s).bind fun q23 =>
  (f_Mo_store (v3 + v4) 1 q19 q21 q23 s).bind fun q25 =>
  some (.inl ((v4 + 1), q25))
set_option maxHeartbeats 4000000 in
set_option maxRecDepth 100000 in
theorem t_Mo_fill_L84 (G : GG) (hR : gR G = rmx 4 93) (hL : gL G = 5) (C : Cx SM G cX12_fill RX12) {Acc : ((Int32 × St) ⊕ (Int32 × St)) → Prop}  (v1 : Int32) (v2 : Int32) (v3 : Int32) (v4 : Int32) (s : St) (hb1 : ∀ (a4 : Int32) (t : St), Acc (.inl (a4, t)) → KK SM G 84 [(0, .ref (ad G 0)), (1, .int v1), (2, .int v2), (3, .int v3), (4, .int a4)] [] t) (hx1 : ∀ (a4 : Int32) (t : St), Acc (.inr (a4, t)) → KK SM G 126 [(0, .ref (ad G 0)), (1, .int v1), (2, .int v2), (3, .int v3), (4, .int a4)] [] t) : JJ SM G Acc (f_Mo_fill_L84 v1 v2 v3 v4 s) 84 [(0, .ref (ad G 0)), (1, .int v1), (2, .int v2), (3, .int v3), (4, .int v4)] [] s := by
  unfold f_Mo_fill_L84
  refine jr_iload C 4 rfl dX12_fill_84 ?_
  refine jr_iload_n C 2 rfl rfl dX12_fill_86 ?_
  refine jr_icmp_ge C (tgt := 126) dX12_fill_87 (by decide) (fun h18 => ?_) (fun h18 => ?_)
  · refine jo_pos h18 ?_
    exact jr_end (fun h => hx1 v4 s h)
  refine jo_neg h18 ?_
  refine jr_aload_n C 0 rfl rfl dX12_fill_90 ?_
  refine jr_iload_n C 3 rfl rfl dX12_fill_91 ?_
  refine jr_iload C 4 rfl dX12_fill_92 ?_
  refine jr_iadd C dX12_fill_94 ?_
  refine jr_iconst C ic_1 dX12_fill_95 ?_
  refine jr_aload_n C 0 rfl rfl dX12_fill_96 ?_
  refine jr_iload_n C 1 rfl rfl dX12_fill_97 ?_
  refine jr_iconst C ic_1 dX12_fill_98 ?_
  refine jr_iadd C dX12_fill_99 ?_
  refine jr_bind (fun q19 e20 => ?_)
  refine jr_callVI C FX_10 km_X12_451 oS_0.1 oS_0.2 (rk hR rfl) (c_Mo_value (gl G) (v1 + 1) s e20) rfl rfl rfl (Nat.le_of_ble_eq_true rfl) dX12_fill_100 ?_
  refine jr_aload_n C 0 rfl rfl dX12_fill_103 ?_
  refine jr_iload_n C 1 rfl rfl dX12_fill_104 ?_
  refine jr_iconst C ic_1 dX12_fill_105 ?_
  refine jr_iadd C dX12_fill_106 ?_
  refine jr_bind (fun q21 e22 => ?_)
  refine jr_callVI C FX_10 km_X12_454 oS_0.1 oS_0.2 (rk hR rfl) (c_Mo_shade (gl G) (v1 + 1) s e22) rfl rfl rfl (Nat.le_of_ble_eq_true rfl) dX12_fill_107 ?_
  refine jr_aload_n C 0 rfl rfl dX12_fill_110 ?_
  refine jr_iload_n C 1 rfl rfl dX12_fill_111 ?_
  refine jr_iconst C ic_1 dX12_fill_112 ?_
  refine jr_iadd C dX12_fill_113 ?_
  refine jr_bind (fun q23 e24 => ?_)
  refine jr_callVI C FX_10 km_X12_457 oS_0.1 oS_0.2 (rk hR rfl) (c_Mo_origin (gl G) (v1 + 1) s e24) rfl rfl rfl (Nat.le_of_ble_eq_true rfl) dX12_fill_114 ?_
  refine jr_bind (fun q25 e26 => ?_)
  refine jr_callVV C FX_10 km_X12_493 oS_0.1 oS_0.2 (rk hR rfl) (c_Mo_store (gl G) (v3 + v4) 1 q19 q21 q23 s e26) rfl rfl rfl (Nat.le_of_ble_eq_true rfl) dX12_fill_117 ?_
  refine jr_iinc C 4 rfl ii_1 (lv' := [(4, .int (v4 + 1)), (0, .ref (ad G 0)), (1, .int v1), (2, .int v2), (3, .int v3)]) (ltL hL rfl) rfl dX12_fill_120 ?_
  refine jr_goto C (tgt := 84) dX12_fill_123 (by decide) ?_
  refine jr_lv [1, 2, 3, 4, 0] rfl ?_
  exact jr_end (fun h => hb1 (v4 + 1) q25 h)
noncomputable def f_Mo_fill_J48 (v1 : Int32) (v2 : Int32) (s : St) : Option St :=
  if v2 < 0 then
  f_Mo_fill_J59 s
  else
  if v2 ≤ 256 then
  ((f_Mo_value v1 s).bind fun q13 =>
  (f_Mo_areThere q13 v2 s).bind fun q15 =>
  if q15.1 = 0 then
  some (q15.2)
  else
  (wh (fun a : (Int32 × St) => f_Mo_fill_L84 v1 v2 q13 a.1 a.2) (0, q15.2)).bind (fun b27 =>
  some (b27.2)))
  else
  f_Mo_fill_J59 s
set_option maxHeartbeats 4000000 in
set_option maxRecDepth 100000 in
theorem t_Mo_fill_J48 (G : GG) (hR : gR G = rmx 4 93) (hL : gL G = 5) (C : Cx SM G cX12_fill RX12) {Acc : St → Prop}  (v1 : Int32) (v2 : Int32) (s : St) (hr : ∀ v : St, Acc v → RtV SM G cX12_fill v) : JJ SM G Acc (f_Mo_fill_J48 v1 v2 s) 48 [(0, .ref (ad G 0)), (1, .int v1), (2, .int v2)] [] s := by
  unfold f_Mo_fill_J48
  refine jr_iload_n C 2 rfl rfl dX12_fill_48 ?_
  refine jr_if_lt C (tgt := 59) dX12_fill_49 (by decide) (fun h9 => ?_) (fun h9 => ?_)
  · refine jo_pos h9 ?_
    refine jr_lv [0] rfl ?_
    exact t_Mo_fill_J59 G hR hL C   s hr
  refine jo_neg h9 ?_
  refine jr_iload_n C 2 rfl rfl dX12_fill_52 ?_
  refine jr_sipush C sp_256 dX12_fill_53 ?_
  refine jr_icmp_le C (tgt := 65) dX12_fill_56 (by decide) (fun h12 => ?_) (fun h12 => ?_)
  · refine jo_pos h12 ?_
    refine jr_aload_n C 0 rfl rfl dX12_fill_65 ?_
    refine jr_iload_n C 1 rfl rfl dX12_fill_66 ?_
    refine jr_bind (fun q13 e14 => ?_)
    refine jr_callVI C FX_10 km_X12_451 oS_0.1 oS_0.2 (rk hR rfl) (c_Mo_value (gl G) v1 s e14) rfl rfl rfl (Nat.le_of_ble_eq_true rfl) dX12_fill_67 ?_
    refine jr_istore_n C (lv' := [(3, .int q13), (0, .ref (ad G 0)), (1, .int v1), (2, .int v2)]) (ltL hL rfl) rfl rfl dX12_fill_70 ?_
    refine jr_aload_n C 1 rfl rfl dX12_fill_71 ?_
    refine jr_iload_n C 0 rfl rfl dX12_fill_72 ?_
    refine jr_iload_n C 3 rfl rfl dX12_fill_73 ?_
    refine jr_bind (fun q15 e16 => ?_)
    refine jr_callVI C FX_10 km_X12_486 oS_0.1 oS_0.2 (rk hR rfl) (c_Mo_areThere (gl G) q13 v2 s e16) rfl rfl rfl (Nat.le_of_ble_eq_true rfl) dX12_fill_74 ?_
    refine jr_if_ne C (tgt := 81) dX12_fill_77 (by decide) (fun h17 => ?_) (fun h17 => ?_)
    · refine jo_neg h17 ?_
      refine jr_iconst C ic_0 dX12_fill_81 ?_
      refine jr_istore C (lv' := [(4, .int 0), (3, .int q13), (0, .ref (ad G 0)), (1, .int v1), (2, .int v2)]) (ltL hL rfl) rfl dX12_fill_82 ?_
      refine jr_lv [2, 3, 4, 1, 0] rfl ?_
      refine jr_loopB (pc := 84) (pcx := 126) (f := fun a : (Int32 × St) => f_Mo_fill_L84 v1 v2 q13 a.1 a.2) (fun a : (Int32 × St) => [(0, .ref (ad G 0)), (1, .int v1), (2, .int v2), (3, .int q13), (4, .int (a.1))]) (fun a : (Int32 × St) => a.2) (0, q15.2) (fun a => t_Mo_fill_L84 G hR hL C  v1 v2 q13 a.1 a.2 (fun _ _ h => h) (fun _ _ h => h)) (fun b27 => ?_)
      exact jr_end (fun h => hr (b27.2) h _ _ dX12_fill_126)
    refine jo_pos h17 ?_
    exact jr_end (fun h => hr (q15.2) h _ _ dX12_fill_80)
  refine jo_neg h12 ?_
  refine jr_lv [0] rfl ?_
  exact t_Mo_fill_J59 G hR hL C   s hr
noncomputable def f_Mo_fill_J26 (v1 : Int32) (v2 : Int32) (s : St) : Option St :=
  (f_Mo_shade (v1 + 2) s).bind fun q6 =>
  if q6 = 0 then
  f_Mo_fill_J48 v1 v2 s
  else
  (f_Mo_origin (v1 + 2) s).bind fun q28 =>
  (f_Mo_told 5 q28 s).bind fun q30 =>
  f_Mo_fill_J48 v1 v2 q30
set_option maxHeartbeats 4000000 in
set_option maxRecDepth 100000 in
theorem t_Mo_fill_J26 (G : GG) (hR : gR G = rmx 4 93) (hL : gL G = 5) (C : Cx SM G cX12_fill RX12) {Acc : St → Prop}  (v1 : Int32) (v2 : Int32) (s : St) (hr : ∀ v : St, Acc v → RtV SM G cX12_fill v) : JJ SM G Acc (f_Mo_fill_J26 v1 v2 s) 26 [(0, .ref (ad G 0)), (1, .int v1), (2, .int v2)] [] s := by
  unfold f_Mo_fill_J26
  refine jr_aload_n C 0 rfl rfl dX12_fill_26 ?_
  refine jr_iload_n C 1 rfl rfl dX12_fill_27 ?_
  refine jr_iconst C ic_2 dX12_fill_28 ?_
  refine jr_iadd C dX12_fill_29 ?_
  refine jr_bind (fun q6 e7 => ?_)
  refine jr_callVI C FX_10 km_X12_454 oS_0.1 oS_0.2 (rk hR rfl) (c_Mo_shade (gl G) (v1 + 2) s e7) rfl rfl rfl (Nat.le_of_ble_eq_true rfl) dX12_fill_30 ?_
  refine jr_if_eq C (tgt := 48) dX12_fill_33 (by decide) (fun h8 => ?_) (fun h8 => ?_)
  · refine jo_pos h8 ?_
    exact t_Mo_fill_J48 G hR hL C  v1 v2 s hr
  refine jo_neg h8 ?_
  refine jr_aload_n C 0 rfl rfl dX12_fill_36 ?_
  refine jr_iconst C ic_5 dX12_fill_37 ?_
  refine jr_aload_n C 0 rfl rfl dX12_fill_38 ?_
  refine jr_iload_n C 1 rfl rfl dX12_fill_39 ?_
  refine jr_iconst C ic_2 dX12_fill_40 ?_
  refine jr_iadd C dX12_fill_41 ?_
  refine jr_bind (fun q28 e29 => ?_)
  refine jr_callVI C FX_10 km_X12_457 oS_0.1 oS_0.2 (rk hR rfl) (c_Mo_origin (gl G) (v1 + 2) s e29) rfl rfl rfl (Nat.le_of_ble_eq_true rfl) dX12_fill_42 ?_
  refine jr_bind (fun q30 e31 => ?_)
  refine jr_callVV C FX_10 km_X12_460 oS_0.1 oS_0.2 (rk hR rfl) (c_Mo_told (gl G) 5 q28 s e31) rfl rfl rfl (Nat.le_of_ble_eq_true rfl) dX12_fill_45 ?_
  exact t_Mo_fill_J48 G hR hL C  v1 v2 q30 hr
noncomputable def f_Mo_fill (v1 : Int32) (s : St) : Option St :=
  (f_Mo_value (v1 + 2) s).bind fun q1 =>
  (f_Mo_shade v1 s).bind fun q3 =>
  if q3 = 0 then
  f_Mo_fill_J26 v1 q1 s
  else
  (f_Mo_origin v1 s).bind fun q32 =>
  (f_Mo_told 2 q32 s).bind fun q34 =>
  f_Mo_fill_J26 v1 q1 q34
set_option maxHeartbeats 4000000 in
set_option maxRecDepth 100000 in
theorem t_Mo_fill (G : GG) (hR : gR G = rmx 4 93) (hL : gL G = 5) (C : Cx SM G cX12_fill RX12) {Acc : St → Prop}  (v1 : Int32) (s : St) (hr : ∀ v : St, Acc v → RtV SM G cX12_fill v) : JJ SM G Acc (f_Mo_fill v1 s) 0 [(0, .ref (ad G 0)), (1, .int v1)] [] s := by
  unfold f_Mo_fill
  refine jr_aload_n C 0 rfl rfl dX12_fill_0 ?_
  refine jr_iload_n C 1 rfl rfl dX12_fill_1 ?_
  refine jr_iconst C ic_2 dX12_fill_2 ?_
  refine jr_iadd C dX12_fill_3 ?_
  refine jr_bind (fun q1 e2 => ?_)
  refine jr_callVI C FX_10 km_X12_451 oS_0.1 oS_0.2 (rk hR rfl) (c_Mo_value (gl G) (v1 + 2) s e2) rfl rfl rfl (Nat.le_of_ble_eq_true rfl) dX12_fill_4 ?_
  refine jr_istore_n C (lv' := [(2, .int q1), (0, .ref (ad G 0)), (1, .int v1)]) (ltL hL rfl) rfl rfl dX12_fill_7 ?_
  refine jr_aload_n C 1 rfl rfl dX12_fill_8 ?_
  refine jr_iload_n C 2 rfl rfl dX12_fill_9 ?_
  refine jr_bind (fun q3 e4 => ?_)
  refine jr_callVI C FX_10 km_X12_454 oS_0.1 oS_0.2 (rk hR rfl) (c_Mo_shade (gl G) v1 s e4) rfl rfl rfl (Nat.le_of_ble_eq_true rfl) dX12_fill_10 ?_
  refine jr_if_eq C (tgt := 26) dX12_fill_13 (by decide) (fun h5 => ?_) (fun h5 => ?_)
  · refine jo_pos h5 ?_
    refine jr_lv [1, 2, 0] rfl ?_
    exact t_Mo_fill_J26 G hR hL C  v1 q1 s hr
  refine jo_neg h5 ?_
  refine jr_aload_n C 1 rfl rfl dX12_fill_16 ?_
  refine jr_iconst C ic_2 dX12_fill_17 ?_
  refine jr_aload_n C 1 rfl rfl dX12_fill_18 ?_
  refine jr_iload_n C 2 rfl rfl dX12_fill_19 ?_
  refine jr_bind (fun q32 e33 => ?_)
  refine jr_callVI C FX_10 km_X12_457 oS_0.1 oS_0.2 (rk hR rfl) (c_Mo_origin (gl G) v1 s e33) rfl rfl rfl (Nat.le_of_ble_eq_true rfl) dX12_fill_20 ?_
  refine jr_bind (fun q34 e35 => ?_)
  refine jr_callVV C FX_10 km_X12_460 oS_0.1 oS_0.2 (rk hR rfl) (c_Mo_told (gl G) 2 q32 s e35) rfl rfl rfl (Nat.le_of_ble_eq_true rfl) dX12_fill_23 ?_
  refine jr_lv [1, 2, 0] rfl ?_
  exact t_Mo_fill_J26 G hR hL C  v1 q1 q34 hr
set_option maxRecDepth 100000 in
theorem c_Mo_fill (l : Launch)  (v1 : Int32) (s : St) {q : St} (h : f_Mo_fill v1 s = some q) : CT SM l yX12_fill cX12_fill 5 none 4 93 (fun a => [.ref (a 0), .int v1]) s q (fun _ => none) :=
  ct_V okX_M (by decide) (fun _ => Nat.le_of_ble_eq_true rfl) (fun G hl hR hL C hr => t_Mo_fill G hR hL C (Acc := fun v => v = q)  v1 s (fun v hv => by rw [hv]; exact hr) ⟨_, h, rfl⟩)
noncomputable def f_Mo_areIn (v0 : Int32) (v1 : Int32) : Int32 :=
  if v1 < 0 then
  0
  else
  if 256 < v1 then
  0
  else
  if v1 = 0 then
  1
  else
  if v0 < 0 then
  0
  else
  if (4096 - v1) < v0 then
  0
  else
  1
set_option maxHeartbeats 4000000 in
set_option maxRecDepth 100000 in
theorem t_Mo_areIn (G : GG) (hR : gR G = rmx 0 0) (hL : gL G = 2) (C : Cx SM G cX12_areIn RX12) {Acc : Int32 → Prop}  (v0 : Int32) (v1 : Int32) (s : St) (hr : ∀ v : Int32, Acc v → RtZ SM G cX12_areIn v s) : JJ SM G Acc (some (f_Mo_areIn v0 v1)) 0 [(0, .int v0), (1, .int v1)] [] s := by
  unfold f_Mo_areIn
  refine jr_iload_n C 1 rfl rfl dX12_areIn_0 ?_
  refine jr_if_lt C (tgt := 32) dX12_areIn_1 (by decide) (fun h1 => ?_) (fun h1 => ?_)
  · refine jo_posP h1 ?_
    refine jr_iconst C ic_0 dX12_areIn_32 ?_
    exact jr_end (fun h => hr 0 h _ _ _ bN0 dX12_areIn_33)
  refine jo_negP h1 ?_
  refine jr_iload_n C 1 rfl rfl dX12_areIn_4 ?_
  refine jr_sipush C sp_256 dX12_areIn_5 ?_
  refine jr_icmp_gt C (tgt := 32) dX12_areIn_8 (by decide) (fun h2 => ?_) (fun h2 => ?_)
  · refine jo_posP h2 ?_
    refine jr_iconst C ic_0 dX12_areIn_32 ?_
    exact jr_end (fun h => hr 0 h _ _ _ bN0 dX12_areIn_33)
  refine jo_negP h2 ?_
  refine jr_iload_n C 1 rfl rfl dX12_areIn_11 ?_
  refine jr_if_eq C (tgt := 28) dX12_areIn_12 (by decide) (fun h3 => ?_) (fun h3 => ?_)
  · refine jo_posP h3 ?_
    refine jr_iconst C ic_1 dX12_areIn_28 ?_
    refine jr_goto C (tgt := 33) dX12_areIn_29 (by decide) ?_
    exact jr_end (fun h => hr 1 h _ _ _ bN1 dX12_areIn_33)
  refine jo_negP h3 ?_
  refine jr_iload_n C 0 rfl rfl dX12_areIn_15 ?_
  refine jr_if_lt C (tgt := 32) dX12_areIn_16 (by decide) (fun h4 => ?_) (fun h4 => ?_)
  · refine jo_posP h4 ?_
    refine jr_iconst C ic_0 dX12_areIn_32 ?_
    exact jr_end (fun h => hr 0 h _ _ _ bN0 dX12_areIn_33)
  refine jo_negP h4 ?_
  refine jr_iload_n C 0 rfl rfl dX12_areIn_19 ?_
  refine jr_sipush C sp_4096 dX12_areIn_20 ?_
  refine jr_iload_n C 1 rfl rfl dX12_areIn_23 ?_
  refine jr_isub C dX12_areIn_24 ?_
  refine jr_icmp_gt C (tgt := 32) dX12_areIn_25 (by decide) (fun h5 => ?_) (fun h5 => ?_)
  · refine jo_posP h5 ?_
    refine jr_iconst C ic_0 dX12_areIn_32 ?_
    exact jr_end (fun h => hr 0 h _ _ _ bN0 dX12_areIn_33)
  refine jo_negP h5 ?_
  refine jr_iconst C ic_1 dX12_areIn_28 ?_
  refine jr_goto C (tgt := 33) dX12_areIn_29 (by decide) ?_
  exact jr_end (fun h => hr 1 h _ _ _ bN1 dX12_areIn_33)
set_option maxRecDepth 100000 in
theorem c_Mo_areIn (l : Launch)  (v0 : Int32) (v1 : Int32) (s : St) : CT SM l yX12_areIn cX12_areIn 2 (some .boolean) 0 0 (fun a => [.int v0, .int v1]) s s (fun _ => some (.int (f_Mo_areIn v0 v1))) :=
  ct_Z okX_M (by decide) (fun _ => Nat.le_of_ble_eq_true rfl) (fun G hl hR hL C hr => t_Mo_areIn G hR hL C (Acc := fun v => v = (f_Mo_areIn v0 v1))  v0 v1 s (fun v hv => by rw [hv]; exact hr) ⟨_, rfl, rfl⟩)
