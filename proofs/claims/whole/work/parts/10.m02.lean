noncomputable def f_Mo_readOperand_J166  (s : St) : Option St :=
  (f_Mo_wrong s).bind fun q8 =>
  some (q8.2)
set_option maxHeartbeats 4000000 in
set_option maxRecDepth 100000 in
theorem t_Mo_readOperand_J166 (G : GG) (hR : gR G = rmx 3 63) (hL : gL G = 4) (C : Cx SM G cX12_readOperand RX12) {Acc : St → Prop}   (s : St) (hr : ∀ v : St, Acc v → RtV SM G cX12_readOperand v) : JJ SM G Acc (f_Mo_readOperand_J166 s) 166 [(0, .ref (ad G 0))] [] s := by
  unfold f_Mo_readOperand_J166
  refine jr_aload_n C 0 rfl rfl dX12_readOperand_166 ?_
  refine jr_bind (fun q8 e9 => ?_)
  refine jr_callVI C FX_10 km_X12_337 oS_0.1 oS_0.2 (rk hR rfl) (c_Mo_wrong (gl G) s e9) rfl rfl rfl (Nat.le_of_ble_eq_true rfl) dX12_readOperand_167 ?_
  refine jr_pop C rfl dX12_readOperand_170 ?_
  exact jr_end (fun h => hr (q8.2) h _ _ dX12_readOperand_171)
noncomputable def f_Mo_readOperand_J75 (v1 : Int32) (v2 : Int32) (v3 : Int32) (s : St) : Option St :=
  if (s.1 0 24) = 2 then
  (if v1 = 4 then
  (if 0 ≤ v3 then
  f_Mo_readOperand_J166 s
  else
  (f_Mo_instruction s).bind fun q12 =>
  if 0 ≤ q12 then
  f_Mo_readOperand_J166 s
  else
  gd (s.1 0 18) 201 <|
  lt (uI s 9 ((s.1 0 18) : Int32).toNatClampNeg (s.1 0 25)) fun s15 =>
  gd (s15.1 0 18) 201 <|
  lt (uI s15 10 ((s15.1 0 18) : Int32).toNatClampNeg ((s15.1 0 26) - (s15.1 0 25))) fun s16 =>
  gd (s16.1 0 18) 201 <|
  lt (uI s16 11 ((s16.1 0 18) : Int32).toNatClampNeg (s16.1 0 23)) fun s17 =>
  gd (s17.1 0 18) 201 <|
  lt (uI s17 12 ((s17.1 0 18) : Int32).toNatClampNeg v2) fun s18 =>
  lt (uI s18 0 18 ((s18.1 0 18) + 1)) fun s19 =>
  some s19)
  else
  f_Mo_readOperand_J166 s)
  else
  f_Mo_readOperand_J166 s
set_option maxHeartbeats 4000000 in
set_option maxRecDepth 100000 in
theorem t_Mo_readOperand_J75 (G : GG) (hR : gR G = rmx 3 63) (hL : gL G = 4) (C : Cx SM G cX12_readOperand RX12) {Acc : St → Prop}  (v1 : Int32) (v2 : Int32) (v3 : Int32) (s : St) (hr : ∀ v : St, Acc v → RtV SM G cX12_readOperand v) : JJ SM G Acc (f_Mo_readOperand_J75 v1 v2 v3 s) 75 [(0, .ref (ad G 0)), (1, .int v1), (2, .int v2), (3, .int v3)] [] s := by
  unfold f_Mo_readOperand_J75
  refine jr_aload_n C 0 rfl rfl dX12_readOperand_75 ?_
  refine jr_getI C FX_10 24 oS_0.1 oS_0.2 ff_10_24.1 ff_10_24.2 fl_X12_295 dX12_readOperand_76 ?_
  refine jr_iconst C ic_2 dX12_readOperand_79 ?_
  refine jr_icmp_ne C (tgt := 166) dX12_readOperand_80 (by decide) (fun h7 => ?_) (fun h7 => ?_)
  · refine jo_neg h7 ?_
    refine jr_lv [0] rfl ?_
    exact t_Mo_readOperand_J166 G hR hL C   s hr
  refine jo_pos h7 ?_
  refine jr_iload_n C 1 rfl rfl dX12_readOperand_83 ?_
  refine jr_iconst C ic_4 dX12_readOperand_84 ?_
  refine jr_icmp_ne C (tgt := 166) dX12_readOperand_85 (by decide) (fun h10 => ?_) (fun h10 => ?_)
  · refine jo_neg h10 ?_
    refine jr_lv [0] rfl ?_
    exact t_Mo_readOperand_J166 G hR hL C   s hr
  refine jo_pos h10 ?_
  refine jr_iload_n C 3 rfl rfl dX12_readOperand_88 ?_
  refine jr_if_ge C (tgt := 166) dX12_readOperand_89 (by decide) (fun h11 => ?_) (fun h11 => ?_)
  · refine jo_pos h11 ?_
    refine jr_lv [0] rfl ?_
    exact t_Mo_readOperand_J166 G hR hL C   s hr
  refine jo_neg h11 ?_
  refine jr_aload_n C 0 rfl rfl dX12_readOperand_92 ?_
  refine jr_bind (fun q12 e13 => ?_)
  refine jr_callVI C FX_10 km_X12_341 oS_0.1 oS_0.2 (rk hR rfl) (c_Mo_instruction (gl G) s e13) rfl rfl rfl (Nat.le_of_ble_eq_true rfl) dX12_readOperand_93 ?_
  refine jr_if_ge C (tgt := 166) dX12_readOperand_96 (by decide) (fun h14 => ?_) (fun h14 => ?_)
  · refine jo_pos h14 ?_
    refine jr_lv [0] rfl ?_
    exact t_Mo_readOperand_J166 G hR hL C   s hr
  refine jo_neg h14 ?_
  refine jr_aload_n C 0 rfl rfl dX12_readOperand_99 ?_
  refine jr_getR C FX_10 10 oS_0.1 oS_0.2 ff_10_10.1 ff_10_10.2 rfl fl_X12_36 dX12_readOperand_100 ?_
  refine jr_aload_n C 0 rfl rfl dX12_readOperand_103 ?_
  refine jr_getI C FX_10 18 oS_0.1 oS_0.2 ff_10_18.1 ff_10_18.2 fl_X12_365 dX12_readOperand_104 ?_
  refine jr_aload_n C 0 rfl rfl dX12_readOperand_107 ?_
  refine jr_getI C FX_10 25 oS_0.1 oS_0.2 ff_10_25.1 ff_10_25.2 fl_X12_288 dX12_readOperand_108 ?_
  refine jr_iast C oS_9.1 oS_9.2.1 oS_9.2.2 dX12_readOperand_111 (jr_ltS fun s15 => ?_)
  refine jr_aload_n C 0 rfl rfl dX12_readOperand_112 ?_
  refine jr_getR C FX_10 11 oS_0.1 oS_0.2 ff_10_11.1 ff_10_11.2 rfl fl_X12_39 dX12_readOperand_113 ?_
  refine jr_aload_n C 0 rfl rfl dX12_readOperand_116 ?_
  refine jr_getI C FX_10 18 oS_0.1 oS_0.2 ff_10_18.1 ff_10_18.2 fl_X12_365 dX12_readOperand_117 ?_
  refine jr_aload_n C 0 rfl rfl dX12_readOperand_120 ?_
  refine jr_getI C FX_10 26 oS_0.1 oS_0.2 ff_10_26.1 ff_10_26.2 fl_X12_285 dX12_readOperand_121 ?_
  refine jr_aload_n C 0 rfl rfl dX12_readOperand_124 ?_
  refine jr_getI C FX_10 25 oS_0.1 oS_0.2 ff_10_25.1 ff_10_25.2 fl_X12_288 dX12_readOperand_125 ?_
  refine jr_isub C dX12_readOperand_128 ?_
  refine jr_iast C oS_10.1 oS_10.2.1 oS_10.2.2 dX12_readOperand_129 (jr_ltS fun s16 => ?_)
  refine jr_aload_n C 0 rfl rfl dX12_readOperand_130 ?_
  refine jr_getR C FX_10 12 oS_0.1 oS_0.2 ff_10_12.1 ff_10_12.2 rfl fl_X12_42 dX12_readOperand_131 ?_
  refine jr_aload_n C 0 rfl rfl dX12_readOperand_134 ?_
  refine jr_getI C FX_10 18 oS_0.1 oS_0.2 ff_10_18.1 ff_10_18.2 fl_X12_365 dX12_readOperand_135 ?_
  refine jr_aload_n C 0 rfl rfl dX12_readOperand_138 ?_
  refine jr_getI C FX_10 23 oS_0.1 oS_0.2 ff_10_23.1 ff_10_23.2 fl_X12_275 dX12_readOperand_139 ?_
  refine jr_iast C oS_11.1 oS_11.2.1 oS_11.2.2 dX12_readOperand_142 (jr_ltS fun s17 => ?_)
  refine jr_aload_n C 0 rfl rfl dX12_readOperand_143 ?_
  refine jr_getR C FX_10 13 oS_0.1 oS_0.2 ff_10_13.1 ff_10_13.2 rfl fl_X12_45 dX12_readOperand_144 ?_
  refine jr_aload_n C 0 rfl rfl dX12_readOperand_147 ?_
  refine jr_getI C FX_10 18 oS_0.1 oS_0.2 ff_10_18.1 ff_10_18.2 fl_X12_365 dX12_readOperand_148 ?_
  refine jr_iload_n C 2 rfl rfl dX12_readOperand_151 ?_
  refine jr_iast C oS_12.1 oS_12.2.1 oS_12.2.2 dX12_readOperand_152 (jr_ltS fun s18 => ?_)
  refine jr_aload_n C 0 rfl rfl dX12_readOperand_153 ?_
  refine jr_dup C rfl dX12_readOperand_154 ?_
  refine jr_getI C FX_10 18 oS_0.1 oS_0.2 ff_10_18.1 ff_10_18.2 fl_X12_365 dX12_readOperand_155 ?_
  refine jr_iconst C ic_1 dX12_readOperand_158 ?_
  refine jr_iadd C dX12_readOperand_159 ?_
  refine jr_putI C FX_10 18 oS_0.1 oS_0.2 ff_10_18.1 ff_10_18.2 rfl rfl fl_X12_365 dX12_readOperand_160 (jr_ltS fun s19 => ?_)
  refine jr_goto C (tgt := 171) dX12_readOperand_163 (by decide) ?_
  exact jr_end (fun h => hr s19 h _ _ dX12_readOperand_171)
noncomputable def f_Mo_readOperand_J62 (v2 : Int32) (s : St) : Option St :=
  gd v2 1200 <|
  lt (uI s 5 (v2 : Int32).toNatClampNeg (s.1 0 27)) fun s21 =>
  some s21
set_option maxHeartbeats 4000000 in
set_option maxRecDepth 100000 in
theorem t_Mo_readOperand_J62 (G : GG) (hR : gR G = rmx 3 63) (hL : gL G = 4) (C : Cx SM G cX12_readOperand RX12) {Acc : St → Prop}  (v2 : Int32) (s : St) (hr : ∀ v : St, Acc v → RtV SM G cX12_readOperand v) : JJ SM G Acc (f_Mo_readOperand_J62 v2 s) 62 [(0, .ref (ad G 0)), (2, .int v2)] [] s := by
  unfold f_Mo_readOperand_J62
  refine jr_aload_n C 0 rfl rfl dX12_readOperand_62 ?_
  refine jr_getR C FX_10 6 oS_0.1 oS_0.2 ff_10_6.1 ff_10_6.2 rfl fl_X12_24 dX12_readOperand_63 ?_
  refine jr_iload_n C 1 rfl rfl dX12_readOperand_66 ?_
  refine jr_aload_n C 0 rfl rfl dX12_readOperand_67 ?_
  refine jr_getI C FX_10 27 oS_0.1 oS_0.2 ff_10_27.1 ff_10_27.2 fl_X12_313 dX12_readOperand_68 ?_
  refine jr_iast C oS_5.1 oS_5.2.1 oS_5.2.2 dX12_readOperand_71 (jr_ltS fun s21 => ?_)
  refine jr_goto C (tgt := 171) dX12_readOperand_72 (by decide) ?_
  exact jr_end (fun h => hr s21 h _ _ dX12_readOperand_171)
noncomputable def f_Mo_readOperand_J44 (v1 : Int32) (v2 : Int32) (v3 : Int32) (s : St) : Option St :=
  if (s.1 0 24) = 3 then
  (if v1 = 2 then
  f_Mo_readOperand_J62 v2 s
  else
  if v1 = 3 then
  f_Mo_readOperand_J62 v2 s
  else
  f_Mo_readOperand_J75 v1 v2 v3 s)
  else
  f_Mo_readOperand_J75 v1 v2 v3 s
set_option maxHeartbeats 4000000 in
set_option maxRecDepth 100000 in
theorem t_Mo_readOperand_J44 (G : GG) (hR : gR G = rmx 3 63) (hL : gL G = 4) (C : Cx SM G cX12_readOperand RX12) {Acc : St → Prop}  (v1 : Int32) (v2 : Int32) (v3 : Int32) (s : St) (hr : ∀ v : St, Acc v → RtV SM G cX12_readOperand v) : JJ SM G Acc (f_Mo_readOperand_J44 v1 v2 v3 s) 44 [(0, .ref (ad G 0)), (1, .int v1), (2, .int v2), (3, .int v3)] [] s := by
  unfold f_Mo_readOperand_J44
  refine jr_aload_n C 0 rfl rfl dX12_readOperand_44 ?_
  refine jr_getI C FX_10 24 oS_0.1 oS_0.2 ff_10_24.1 ff_10_24.2 fl_X12_295 dX12_readOperand_45 ?_
  refine jr_iconst C ic_3 dX12_readOperand_48 ?_
  refine jr_icmp_ne C (tgt := 75) dX12_readOperand_49 (by decide) (fun h6 => ?_) (fun h6 => ?_)
  · refine jo_neg h6 ?_
    exact t_Mo_readOperand_J75 G hR hL C  v1 v2 v3 s hr
  refine jo_pos h6 ?_
  refine jr_iload_n C 1 rfl rfl dX12_readOperand_52 ?_
  refine jr_iconst C ic_2 dX12_readOperand_53 ?_
  refine jr_icmp_eq C (tgt := 62) dX12_readOperand_54 (by decide) (fun h20 => ?_) (fun h20 => ?_)
  · refine jo_pos h20 ?_
    refine jr_lv [0, 2] rfl ?_
    exact t_Mo_readOperand_J62 G hR hL C  v2 s hr
  refine jo_neg h20 ?_
  refine jr_iload_n C 1 rfl rfl dX12_readOperand_57 ?_
  refine jr_iconst C ic_3 dX12_readOperand_58 ?_
  refine jr_icmp_ne C (tgt := 75) dX12_readOperand_59 (by decide) (fun h22 => ?_) (fun h22 => ?_)
  · refine jo_neg h22 ?_
    exact t_Mo_readOperand_J75 G hR hL C  v1 v2 v3 s hr
  refine jo_pos h22 ?_
  refine jr_lv [0, 2] rfl ?_
  exact t_Mo_readOperand_J62 G hR hL C  v2 s hr
noncomputable def f_Mo_readOperand_J34 (v2 : Int32) (v3 : Int32) (s : St) : Option St :=
  gd v2 1200 <|
  lt (uI s 5 (v2 : Int32).toNatClampNeg v3) fun s24 =>
  some s24
set_option maxHeartbeats 4000000 in
set_option maxRecDepth 100000 in
theorem t_Mo_readOperand_J34 (G : GG) (hR : gR G = rmx 3 63) (hL : gL G = 4) (C : Cx SM G cX12_readOperand RX12) {Acc : St → Prop}  (v2 : Int32) (v3 : Int32) (s : St) (hr : ∀ v : St, Acc v → RtV SM G cX12_readOperand v) : JJ SM G Acc (f_Mo_readOperand_J34 v2 v3 s) 34 [(0, .ref (ad G 0)), (2, .int v2), (3, .int v3)] [] s := by
  unfold f_Mo_readOperand_J34
  refine jr_aload_n C 0 rfl rfl dX12_readOperand_34 ?_
  refine jr_getR C FX_10 6 oS_0.1 oS_0.2 ff_10_6.1 ff_10_6.2 rfl fl_X12_24 dX12_readOperand_35 ?_
  refine jr_iload_n C 1 rfl rfl dX12_readOperand_38 ?_
  refine jr_iload_n C 2 rfl rfl dX12_readOperand_39 ?_
  refine jr_iast C oS_5.1 oS_5.2.1 oS_5.2.2 dX12_readOperand_40 (jr_ltS fun s24 => ?_)
  refine jr_goto C (tgt := 171) dX12_readOperand_41 (by decide) ?_
  exact jr_end (fun h => hr s24 h _ _ dX12_readOperand_171)
noncomputable def f_Mo_readOperand_J19 (v1 : Int32) (v2 : Int32) (v3 : Int32) (w0 : Int32) (w1 : Int32) (s : St) : Option St :=
  gd w1 1200 <|
  lt (uI s 4 (w1 : Int32).toNatClampNeg (bN w0)) fun s4 =>
  if v3 < 0 then
  f_Mo_readOperand_J44 v1 v2 v3 s4
  else
  if v1 = 1 then
  f_Mo_readOperand_J34 v2 v3 s4
  else
  if v1 = 3 then
  f_Mo_readOperand_J34 v2 v3 s4
  else
  f_Mo_readOperand_J44 v1 v2 v3 s4
set_option maxHeartbeats 4000000 in
set_option maxRecDepth 100000 in
theorem t_Mo_readOperand_J19 (G : GG) (hR : gR G = rmx 3 63) (hL : gL G = 4) (C : Cx SM G cX12_readOperand RX12) {Acc : St → Prop}  (v1 : Int32) (v2 : Int32) (v3 : Int32) (w0 : Int32) (w1 : Int32) (s : St) (hr : ∀ v : St, Acc v → RtV SM G cX12_readOperand v) : JJ SM G Acc (f_Mo_readOperand_J19 v1 v2 v3 w0 w1 s) 19 [(0, .ref (ad G 0)), (1, .int v1), (2, .int v2), (3, .int v3)] [.int w0, .int w1, .ref (ad G 4)] s := by
  unfold f_Mo_readOperand_J19
  refine jr_zast C oS_4.1 oS_4.2.1 oS_4.2.2 dX12_readOperand_19 (jr_ltS fun s4 => ?_)
  refine jr_iload_n C 3 rfl rfl dX12_readOperand_20 ?_
  refine jr_if_lt C (tgt := 44) dX12_readOperand_21 (by decide) (fun h5 => ?_) (fun h5 => ?_)
  · refine jo_pos h5 ?_
    exact t_Mo_readOperand_J44 G hR hL C  v1 v2 v3 s4 hr
  refine jo_neg h5 ?_
  refine jr_iload_n C 1 rfl rfl dX12_readOperand_24 ?_
  refine jr_iconst C ic_1 dX12_readOperand_25 ?_
  refine jr_icmp_eq C (tgt := 34) dX12_readOperand_26 (by decide) (fun h23 => ?_) (fun h23 => ?_)
  · refine jo_pos h23 ?_
    refine jr_lv [0, 2, 3] rfl ?_
    exact t_Mo_readOperand_J34 G hR hL C  v2 v3 s4 hr
  refine jo_neg h23 ?_
  refine jr_iload_n C 1 rfl rfl dX12_readOperand_29 ?_
  refine jr_iconst C ic_3 dX12_readOperand_30 ?_
  refine jr_icmp_ne C (tgt := 44) dX12_readOperand_31 (by decide) (fun h25 => ?_) (fun h25 => ?_)
  · refine jo_neg h25 ?_
    exact t_Mo_readOperand_J44 G hR hL C  v1 v2 v3 s4 hr
  refine jo_pos h25 ?_
  refine jr_lv [0, 2, 3] rfl ?_
  exact t_Mo_readOperand_J34 G hR hL C  v2 v3 s4 hr
noncomputable def f_Mo_readOperand (v1 : Int32) (v2 : Int32) (s : St) : Option St :=
  (f_Mo_named s).bind fun q1 =>
  if q1 < 0 then
  f_Mo_readOperand_J19 v1 v2 q1 0 v2 s
  else
  f_Mo_readOperand_J19 v1 v2 q1 1 v2 s
set_option maxHeartbeats 4000000 in
set_option maxRecDepth 100000 in
theorem t_Mo_readOperand (G : GG) (hR : gR G = rmx 3 63) (hL : gL G = 4) (C : Cx SM G cX12_readOperand RX12) {Acc : St → Prop}  (v1 : Int32) (v2 : Int32) (s : St) (hr : ∀ v : St, Acc v → RtV SM G cX12_readOperand v) : JJ SM G Acc (f_Mo_readOperand v1 v2 s) 0 [(0, .ref (ad G 0)), (1, .int v1), (2, .int v2)] [] s := by
  unfold f_Mo_readOperand
  refine jr_aload_n C 0 rfl rfl dX12_readOperand_0 ?_
  refine jr_bind (fun q1 e2 => ?_)
  refine jr_callVI C FX_10 km_X12_333 oS_0.1 oS_0.2 (rk hR rfl) (c_Mo_named (gl G) s e2) rfl rfl rfl (Nat.le_of_ble_eq_true rfl) dX12_readOperand_1 ?_
  refine jr_istore_n C (lv' := [(3, .int q1), (0, .ref (ad G 0)), (1, .int v1), (2, .int v2)]) (ltL hL rfl) rfl rfl dX12_readOperand_4 ?_
  refine jr_aload_n C 1 rfl rfl dX12_readOperand_5 ?_
  refine jr_getR C FX_10 5 oS_0.1 oS_0.2 ff_10_5.1 ff_10_5.2 rfl fl_X12_20 dX12_readOperand_6 ?_
  refine jr_iload_n C 3 rfl rfl dX12_readOperand_9 ?_
  refine jr_iload_n C 0 rfl rfl dX12_readOperand_10 ?_
  refine jr_if_lt C (tgt := 18) dX12_readOperand_11 (by decide) (fun h3 => ?_) (fun h3 => ?_)
  · refine jo_pos h3 ?_
    refine jr_iconst C ic_0 dX12_readOperand_18 ?_
    refine jr_lv [1, 2, 3, 0] rfl ?_
    exact t_Mo_readOperand_J19 G hR hL C  v1 v2 q1 0 v2 s hr
  refine jo_neg h3 ?_
  refine jr_iconst C ic_1 dX12_readOperand_14 ?_
  refine jr_goto C (tgt := 19) dX12_readOperand_15 (by decide) ?_
  refine jr_lv [1, 2, 3, 0] rfl ?_
  exact t_Mo_readOperand_J19 G hR hL C  v1 v2 q1 1 v2 s hr
set_option maxRecDepth 100000 in
theorem c_Mo_readOperand (l : Launch)  (v1 : Int32) (v2 : Int32) (s : St) {q : St} (h : f_Mo_readOperand v1 v2 s = some q) : CT SM l yX12_readOperand cX12_readOperand 4 none 3 63 (fun a => [.ref (a 0), .int v1, .int v2]) s q (fun _ => none) :=
  ct_V okX_M (by decide) (fun _ => Nat.le_of_ble_eq_true rfl) (fun G hl hR hL C hr => t_Mo_readOperand G hR hL C (Acc := fun v => v = q)  v1 v2 s (fun v hv => by rw [hv]; exact hr) ⟨_, h, rfl⟩)
noncomputable def f_Mo_readOrder_J118_1 (v2 : Int32) (v3 : Int32) (v4 : Int32) (v5 : Int32) (s : St) : Option ((Int32 × Int32 × St) ⊕ ((Int32 × Int32 × St) ⊕ St)) :=
  lt (v5 / 16) fun x17 =>
  some (.inl (v4, x17, s))
set_option maxHeartbeats 4000000 in
set_option maxRecDepth 100000 in
theorem t_Mo_readOrder_J118_1 (G : GG) (hR : gR G = rmx 4 87) (hL : gL G = 7) (C : Cx SM G cX12_readOrder RX12) {Acc : ((Int32 × Int32 × St) ⊕ ((Int32 × Int32 × St) ⊕ St)) → Prop}  (v2 : Int32) (v3 : Int32) (v4 : Int32) (v5 : Int32) (s : St) (hb1 : ∀ (a4 : Int32) (a5 : Int32) (t : St), Acc (.inl (a4, a5, t)) → KK SM G 40 [(0, .ref (ad G 0)), (2, .int v2), (3, .int v3), (4, .int a4), (5, .int a5)] [] t) (hx1 : ∀ (a4 : Int32) (a5 : Int32) (t : St), Acc (.inr (.inl (a4, a5, t))) → KK SM G 128 [(0, .ref (ad G 0)), (2, .int v2), (3, .int v3), (4, .int a4), (5, .int a5)] [] t) (hr : ∀ v : St, Acc (.inr (.inr v)) → RtV SM G cX12_readOrder v) : JJ SM G Acc (f_Mo_readOrder_J118_1 v2 v3 v4 v5 s) 118 [(0, .ref (ad G 0)), (2, .int v2), (3, .int v3), (4, .int v4), (5, .int v5)] [] s := by
  unfold f_Mo_readOrder_J118_1
  refine jr_iload C 4 rfl dX12_readOrder_118 ?_
  refine jr_bipush C bp_16 dX12_readOrder_120 ?_
  refine jr_idiv C (by decide) dX12_readOrder_122 ?_
  refine jr_ltI (fun x17 => ?_)
  refine jr_istore C (lv' := [(5, .int x17), (0, .ref (ad G 0)), (2, .int v2), (3, .int v3), (4, .int v4)]) (ltL hL rfl) rfl dX12_readOrder_123 ?_
  refine jr_goto C (tgt := 40) dX12_readOrder_125 (by decide) ?_
  refine jr_lv [1, 2, 3, 4, 0] rfl ?_
  exact jr_end (fun h => hb1 v4 x17 s h)
noncomputable def f_Mo_readOrder_J95_1 (v2 : Int32) (v3 : Int32) (v4 : Int32) (v5 : Int32) (v6 : Int32) (s : St) : Option ((Int32 × Int32 × St) ⊕ ((Int32 × Int32 × St) ⊕ St)) :=
  (f_Mo_readOperand v6 v4 s).bind fun q12 =>
  if (q12.1 0 20) ≤ 0 then
  ((f_Mo_next q12).bind fun q15 =>
  f_Mo_readOrder_J118_1 v2 v3 (v4 + 1) v5 q15)
  else
  some (.inr (.inr q12))
set_option maxHeartbeats 4000000 in
set_option maxRecDepth 100000 in
theorem t_Mo_readOrder_J95_1 (G : GG) (hR : gR G = rmx 4 87) (hL : gL G = 7) (C : Cx SM G cX12_readOrder RX12) {Acc : ((Int32 × Int32 × St) ⊕ ((Int32 × Int32 × St) ⊕ St)) → Prop}  (v2 : Int32) (v3 : Int32) (v4 : Int32) (v5 : Int32) (v6 : Int32) (s : St) (hb1 : ∀ (a4 : Int32) (a5 : Int32) (t : St), Acc (.inl (a4, a5, t)) → KK SM G 40 [(0, .ref (ad G 0)), (2, .int v2), (3, .int v3), (4, .int a4), (5, .int a5)] [] t) (hx1 : ∀ (a4 : Int32) (a5 : Int32) (t : St), Acc (.inr (.inl (a4, a5, t))) → KK SM G 128 [(0, .ref (ad G 0)), (2, .int v2), (3, .int v3), (4, .int a4), (5, .int a5)] [] t) (hr : ∀ v : St, Acc (.inr (.inr v)) → RtV SM G cX12_readOrder v) : JJ SM G Acc (f_Mo_readOrder_J95_1 v2 v3 v4 v5 v6 s) 95 [(0, .ref (ad G 0)), (2, .int v2), (3, .int v3), (4, .int v4), (5, .int v5), (6, .int v6)] [] s := by
  unfold f_Mo_readOrder_J95_1
  refine jr_aload_n C 0 rfl rfl dX12_readOrder_95 ?_
  refine jr_iload C 5 rfl dX12_readOrder_96 ?_
  refine jr_iload C 3 rfl dX12_readOrder_98 ?_
  refine jr_bind (fun q12 e13 => ?_)
  refine jr_callVV C FX_10 km_X12_361 oS_0.1 oS_0.2 (rk hR rfl) (c_Mo_readOperand (gl G) v6 v4 s e13) rfl rfl rfl (Nat.le_of_ble_eq_true rfl) dX12_readOrder_100 ?_
  refine jr_aload_n C 0 rfl rfl dX12_readOrder_103 ?_
  refine jr_getI C FX_10 20 oS_0.1 oS_0.2 ff_10_20.1 ff_10_20.2 fl_X12_272 dX12_readOrder_104 ?_
  refine jr_if_le C (tgt := 111) dX12_readOrder_107 (by decide) (fun h14 => ?_) (fun h14 => ?_)
  · refine jo_pos h14 ?_
    refine jr_iinc C 3 rfl ii_1 (lv' := [(4, .int (v4 + 1)), (0, .ref (ad G 0)), (2, .int v2), (3, .int v3), (5, .int v5), (6, .int v6)]) (ltL hL rfl) rfl dX12_readOrder_111 ?_
    refine jr_aload_n C 1 rfl rfl dX12_readOrder_114 ?_
    refine jr_bind (fun q15 e16 => ?_)
    refine jr_callVV C FX_10 km_X12_330 oS_0.1 oS_0.2 (rk hR rfl) (c_Mo_next (gl G) q12 e16) rfl rfl rfl (Nat.le_of_ble_eq_true rfl) dX12_readOrder_115 ?_
    refine jr_lv [1, 2, 3, 0, 4] rfl ?_
    exact t_Mo_readOrder_J118_1 G hR hL C  v2 v3 (v4 + 1) v5 q15 hb1 hx1 hr
  refine jo_neg h14 ?_
  exact jr_end (fun h => hr q12 h _ _ dX12_readOrder_110)
noncomputable def f_Mo_readOrder_J83_1 (v2 : Int32) (v3 : Int32) (v4 : Int32) (v5 : Int32) (v6 : Int32) (s : St) : Option ((Int32 × Int32 × St) ⊕ ((Int32 × Int32 × St) ⊕ St)) :=
  if (s.1 0 20) ≤ 0 then
  ((f_Mo_next s).bind fun q20 =>
  f_Mo_readOrder_J95_1 v2 v3 v4 v5 v6 q20)
  else
  some (.inr (.inr s))
set_option maxHeartbeats 4000000 in
set_option maxRecDepth 100000 in
theorem t_Mo_readOrder_J83_1 (G : GG) (hR : gR G = rmx 4 87) (hL : gL G = 7) (C : Cx SM G cX12_readOrder RX12) {Acc : ((Int32 × Int32 × St) ⊕ ((Int32 × Int32 × St) ⊕ St)) → Prop}  (v2 : Int32) (v3 : Int32) (v4 : Int32) (v5 : Int32) (v6 : Int32) (s : St) (hb1 : ∀ (a4 : Int32) (a5 : Int32) (t : St), Acc (.inl (a4, a5, t)) → KK SM G 40 [(0, .ref (ad G 0)), (2, .int v2), (3, .int v3), (4, .int a4), (5, .int a5)] [] t) (hx1 : ∀ (a4 : Int32) (a5 : Int32) (t : St), Acc (.inr (.inl (a4, a5, t))) → KK SM G 128 [(0, .ref (ad G 0)), (2, .int v2), (3, .int v3), (4, .int a4), (5, .int a5)] [] t) (hr : ∀ v : St, Acc (.inr (.inr v)) → RtV SM G cX12_readOrder v) : JJ SM G Acc (f_Mo_readOrder_J83_1 v2 v3 v4 v5 v6 s) 83 [(0, .ref (ad G 0)), (2, .int v2), (3, .int v3), (4, .int v4), (5, .int v5), (6, .int v6)] [] s := by
  unfold f_Mo_readOrder_J83_1
  refine jr_aload_n C 0 rfl rfl dX12_readOrder_83 ?_
  refine jr_getI C FX_10 20 oS_0.1 oS_0.2 ff_10_20.1 ff_10_20.2 fl_X12_272 dX12_readOrder_84 ?_
  refine jr_if_le C (tgt := 91) dX12_readOrder_87 (by decide) (fun h19 => ?_) (fun h19 => ?_)
  · refine jo_pos h19 ?_
    refine jr_aload_n C 0 rfl rfl dX12_readOrder_91 ?_
    refine jr_bind (fun q20 e21 => ?_)
    refine jr_callVV C FX_10 km_X12_330 oS_0.1 oS_0.2 (rk hR rfl) (c_Mo_next (gl G) s e21) rfl rfl rfl (Nat.le_of_ble_eq_true rfl) dX12_readOrder_92 ?_
    exact t_Mo_readOrder_J95_1 G hR hL C  v2 v3 v4 v5 v6 q20 hb1 hx1 hr
  refine jo_neg h19 ?_
  exact jr_end (fun h => hr s h _ _ dX12_readOrder_90)
noncomputable def f_Mo_readOrder_L40 (v2 : Int32) (v3 : Int32) (v4 : Int32) (v5 : Int32) (s : St) : Option ((Int32 × Int32 × St) ⊕ ((Int32 × Int32 × St) ⊕ St)) :=
  if v5 ≤ 0 then
  some (.inr (.inl (v4, v5, s)))
  else
  if v5 = 0 then none else
  lt ((v3 / v5) - (v3 / v5) / 16 * 16) fun x9 =>
  if x9 = 0 then
  f_Mo_readOrder_J118_1 v2 v3 v4 v5 s
  else
  if v4 ≤ (3 * v2) then
  f_Mo_readOrder_J95_1 v2 v3 v4 v5 x9 s
  else
  if (s.1 0 24) = 4 then
  f_Mo_readOrder_J83_1 v2 v3 v4 v5 x9 s
  else
  (f_Mo_wrong s).bind fun q22 =>
  f_Mo_readOrder_J83_1 v2 v3 v4 v5 x9 (q22.2)
set_option maxHeartbeats 4000000 in
set_option maxRecDepth 100000 in
theorem t_Mo_readOrder_L40 (G : GG) (hR : gR G = rmx 4 87) (hL : gL G = 7) (C : Cx SM G cX12_readOrder RX12) {Acc : ((Int32 × Int32 × St) ⊕ ((Int32 × Int32 × St) ⊕ St)) → Prop}  (v2 : Int32) (v3 : Int32) (v4 : Int32) (v5 : Int32) (s : St) (hb1 : ∀ (a4 : Int32) (a5 : Int32) (t : St), Acc (.inl (a4, a5, t)) → KK SM G 40 [(0, .ref (ad G 0)), (2, .int v2), (3, .int v3), (4, .int a4), (5, .int a5)] [] t) (hx1 : ∀ (a4 : Int32) (a5 : Int32) (t : St), Acc (.inr (.inl (a4, a5, t))) → KK SM G 128 [(0, .ref (ad G 0)), (2, .int v2), (3, .int v3), (4, .int a4), (5, .int a5)] [] t) (hr : ∀ v : St, Acc (.inr (.inr v)) → RtV SM G cX12_readOrder v) : JJ SM G Acc (f_Mo_readOrder_L40 v2 v3 v4 v5 s) 40 [(0, .ref (ad G 0)), (2, .int v2), (3, .int v3), (4, .int v4), (5, .int v5)] [] s := by
  unfold f_Mo_readOrder_L40
  refine jr_iload C 4 rfl dX12_readOrder_40 ?_
  refine jr_if_le C (tgt := 128) dX12_readOrder_42 (by decide) (fun h7 => ?_) (fun h7 => ?_)
  · refine jo_pos h7 ?_
    exact jr_end (fun h => hx1 v4 v5 s h)
  refine jo_neg h7 ?_
  refine jr_iload_n C 2 rfl rfl dX12_readOrder_45 ?_
  refine jr_iload C 4 rfl dX12_readOrder_46 ?_
  refine jo_ifn (fun h8 => ?_)
  refine jr_idiv C h8 dX12_readOrder_48 ?_
  refine jr_bipush C bp_16 dX12_readOrder_49 ?_
  refine jr_irem C (by decide) dX12_readOrder_51 ?_
  refine jr_ltI (fun x9 => ?_)
  refine jr_istore C (lv' := [(6, .int x9), (0, .ref (ad G 0)), (2, .int v2), (3, .int v3), (4, .int v4), (5, .int v5)]) (ltL hL rfl) rfl dX12_readOrder_52 ?_
  refine jr_iload C 0 rfl dX12_readOrder_54 ?_
  refine jr_if_ne C (tgt := 62) dX12_readOrder_56 (by decide) (fun h10 => ?_) (fun h10 => ?_)
  · refine jo_neg h10 ?_
    refine jr_iload C 4 rfl dX12_readOrder_62 ?_
    refine jr_iconst C ic_3 dX12_readOrder_64 ?_
    refine jr_iload_n C 2 rfl rfl dX12_readOrder_65 ?_
    refine jr_imul C dX12_readOrder_66 ?_
    refine jr_icmp_le C (tgt := 95) dX12_readOrder_67 (by decide) (fun h11 => ?_) (fun h11 => ?_)
    · refine jo_pos h11 ?_
      refine jr_lv [1, 2, 3, 4, 5, 0] rfl ?_
      exact t_Mo_readOrder_J95_1 G hR hL C  v2 v3 v4 v5 x9 s hb1 hx1 hr
    refine jo_neg h11 ?_
    refine jr_aload_n C 1 rfl rfl dX12_readOrder_70 ?_
    refine jr_getI C FX_10 24 oS_0.1 oS_0.2 ff_10_24.1 ff_10_24.2 fl_X12_295 dX12_readOrder_71 ?_
    refine jr_iconst C ic_4 dX12_readOrder_74 ?_
    refine jr_icmp_eq C (tgt := 83) dX12_readOrder_75 (by decide) (fun h18 => ?_) (fun h18 => ?_)
    · refine jo_pos h18 ?_
      refine jr_lv [1, 2, 3, 4, 5, 0] rfl ?_
      exact t_Mo_readOrder_J83_1 G hR hL C  v2 v3 v4 v5 x9 s hb1 hx1 hr
    refine jo_neg h18 ?_
    refine jr_aload_n C 1 rfl rfl dX12_readOrder_78 ?_
    refine jr_bind (fun q22 e23 => ?_)
    refine jr_callVI C FX_10 km_X12_337 oS_0.1 oS_0.2 (rk hR rfl) (c_Mo_wrong (gl G) s e23) rfl rfl rfl (Nat.le_of_ble_eq_true rfl) dX12_readOrder_79 ?_
    refine jr_pop C rfl dX12_readOrder_82 ?_
    refine jr_lv [1, 2, 3, 4, 5, 0] rfl ?_
    exact t_Mo_readOrder_J83_1 G hR hL C  v2 v3 v4 v5 x9 (q22.2) hb1 hx1 hr
  refine jo_pos h10 ?_
  refine jr_goto C (tgt := 118) dX12_readOrder_59 (by decide) ?_
  refine jr_lv [1, 2, 3, 4, 5] rfl ?_
  exact t_Mo_readOrder_J118_1 G hR hL C  v2 v3 v4 v5 s hb1 hx1 hr
noncomputable def f_Mo_readOrder_J140  (s : St) : Option St :=
  lt (uI s 0 15 ((s.1 0 15) + 1)) fun s26 =>
  some s26
set_option maxHeartbeats 4000000 in
set_option maxRecDepth 100000 in
theorem t_Mo_readOrder_J140 (G : GG) (hR : gR G = rmx 4 87) (hL : gL G = 7) (C : Cx SM G cX12_readOrder RX12) {Acc : St → Prop}   (s : St) (hr : ∀ v : St, Acc v → RtV SM G cX12_readOrder v) : JJ SM G Acc (f_Mo_readOrder_J140 s) 140 [(0, .ref (ad G 0))] [] s := by
  unfold f_Mo_readOrder_J140
  refine jr_aload_n C 0 rfl rfl dX12_readOrder_140 ?_
  refine jr_dup C rfl dX12_readOrder_141 ?_
  refine jr_getI C FX_10 15 oS_0.1 oS_0.2 ff_10_15.1 ff_10_15.2 fl_X12_348 dX12_readOrder_142 ?_
  refine jr_iconst C ic_1 dX12_readOrder_145 ?_
  refine jr_iadd C dX12_readOrder_146 ?_
  refine jr_putI C FX_10 15 oS_0.1 oS_0.2 ff_10_15.1 ff_10_15.2 rfl rfl fl_X12_348 dX12_readOrder_147 (jr_ltS fun s26 => ?_)
  exact jr_end (fun h => hr s26 h _ _ dX12_readOrder_150)
noncomputable def f_Mo_readOrder (v1 : Int32) (s : St) : Option St :=
  lt ((200 * (s.1 0 14)) + (s.1 0 15)) fun x1 =>
  gd x1 400 <|
  lt (uI s 3 (x1 : Int32).toNatClampNeg v1) fun s2 =>
  lt (f_Mo_form v1) fun x3 =>
  (f_Mo_next s2).bind fun q4 =>
  lt (3 * x1) fun x6 =>
  (wh (fun a : (Int32 × Int32 × St) => f_Mo_readOrder_L40 x1 x3 a.1 a.2.1 a.2.2) (x6, 256, q4)).bind (Sum.elim (fun b24 =>
  if (b24.2.2.1 0 24) = 0 then
  f_Mo_readOrder_J140 (b24.2.2)
  else
  (f_Mo_wrong (b24.2.2)).bind fun q27 =>
  f_Mo_readOrder_J140 (q27.2)) some)
set_option maxHeartbeats 4000000 in
set_option maxRecDepth 100000 in
theorem t_Mo_readOrder (G : GG) (hR : gR G = rmx 4 87) (hL : gL G = 7) (C : Cx SM G cX12_readOrder RX12) {Acc : St → Prop}  (v1 : Int32) (s : St) (hr : ∀ v : St, Acc v → RtV SM G cX12_readOrder v) : JJ SM G Acc (f_Mo_readOrder v1 s) 0 [(0, .ref (ad G 0)), (1, .int v1)] [] s := by
  unfold f_Mo_readOrder
  refine jr_sipush C sp_200 dX12_readOrder_0 ?_
  refine jr_aload_n C 0 rfl rfl dX12_readOrder_3 ?_
  refine jr_getI C FX_10 14 oS_0.1 oS_0.2 ff_10_14.1 ff_10_14.2 fl_X12_355 dX12_readOrder_4 ?_
  refine jr_imul C dX12_readOrder_7 ?_
  refine jr_aload_n C 0 rfl rfl dX12_readOrder_8 ?_
  refine jr_getI C FX_10 15 oS_0.1 oS_0.2 ff_10_15.1 ff_10_15.2 fl_X12_348 dX12_readOrder_9 ?_
  refine jr_iadd C dX12_readOrder_12 ?_
  refine jr_ltI (fun x1 => ?_)
  refine jr_istore_n C (lv' := [(2, .int x1), (0, .ref (ad G 0)), (1, .int v1)]) (ltL hL rfl) rfl rfl dX12_readOrder_13 ?_
  refine jr_aload_n C 1 rfl rfl dX12_readOrder_14 ?_
  refine jr_getR C FX_10 4 oS_0.1 oS_0.2 ff_10_4.1 ff_10_4.2 rfl fl_X12_16 dX12_readOrder_15 ?_
  refine jr_iload_n C 0 rfl rfl dX12_readOrder_18 ?_
  refine jr_iload_n C 2 rfl rfl dX12_readOrder_19 ?_
  refine jr_iast C oS_3.1 oS_3.2.1 oS_3.2.2 dX12_readOrder_20 (jr_ltS fun s2 => ?_)
  refine jr_iload_n C 2 rfl rfl dX12_readOrder_21 ?_
  refine jr_callSI C km_X12_358 (rk hR rfl) (c_Mo_form (gl G) v1 s2) rfl rfl rfl (Nat.le_of_ble_eq_true rfl) dX12_readOrder_22 ?_
  refine jr_ltI (fun x3 => ?_)
  refine jr_istore_n C (lv' := [(3, .int x3), (2, .int x1), (0, .ref (ad G 0)), (1, .int v1)]) (ltL hL rfl) rfl rfl dX12_readOrder_25 ?_
  refine jr_aload_n C 2 rfl rfl dX12_readOrder_26 ?_
  refine jr_bind (fun q4 e5 => ?_)
  refine jr_callVV C FX_10 km_X12_330 oS_0.1 oS_0.2 (rk hR rfl) (c_Mo_next (gl G) s2 e5) rfl rfl rfl (Nat.le_of_ble_eq_true rfl) dX12_readOrder_27 ?_
  refine jr_iconst C ic_3 dX12_readOrder_30 ?_
  refine jr_iload_n C 1 rfl rfl dX12_readOrder_31 ?_
  refine jr_imul C dX12_readOrder_32 ?_
  refine jr_ltI (fun x6 => ?_)
  refine jr_istore C (lv' := [(4, .int x6), (3, .int x3), (2, .int x1), (0, .ref (ad G 0)), (1, .int v1)]) (ltL hL rfl) rfl dX12_readOrder_33 ?_
  refine jr_sipush C sp_256 dX12_readOrder_35 ?_
  refine jr_istore C (lv' := [(5, .int 256), (4, .int x6), (3, .int x3), (2, .int x1), (0, .ref (ad G 0)), (1, .int v1)]) (ltL hL rfl) rfl dX12_readOrder_38 ?_
  refine jr_lv [4, 3, 2, 1, 0] rfl ?_
  refine jr_loopE (pc := 40) (pcx := 128) (f := fun a : (Int32 × Int32 × St) => f_Mo_readOrder_L40 x1 x3 a.1 a.2.1 a.2.2) (fun a : (Int32 × Int32 × St) => [(0, .ref (ad G 0)), (2, .int x1), (3, .int x3), (4, .int (a.1)), (5, .int (a.2.1))]) (fun a : (Int32 × Int32 × St) => a.2.2) (x6, 256, q4) (fun a => t_Mo_readOrder_L40 G hR hL C  x1 x3 a.1 a.2.1 a.2.2 (fun _ _ _ h => h) (fun _ _ _ h => h) hr) (fun b24 => ?_)
  refine jr_aload_n C 0 rfl rfl dX12_readOrder_128 ?_
  refine jr_getI C FX_10 24 oS_0.1 oS_0.2 ff_10_24.1 ff_10_24.2 fl_X12_295 dX12_readOrder_129 ?_
  refine jr_if_eq C (tgt := 140) dX12_readOrder_132 (by decide) (fun h25 => ?_) (fun h25 => ?_)
  · refine jo_pos h25 ?_
    refine jr_lv [0] rfl ?_
    exact t_Mo_readOrder_J140 G hR hL C   (b24.2.2) hr
  refine jo_neg h25 ?_
  refine jr_aload_n C 0 rfl rfl dX12_readOrder_135 ?_
  refine jr_bind (fun q27 e28 => ?_)
  refine jr_callVI C FX_10 km_X12_337 oS_0.1 oS_0.2 (rk hR rfl) (c_Mo_wrong (gl G) (b24.2.2) e28) rfl rfl rfl (Nat.le_of_ble_eq_true rfl) dX12_readOrder_136 ?_
  refine jr_pop C rfl dX12_readOrder_139 ?_
  refine jr_lv [0] rfl ?_
  exact t_Mo_readOrder_J140 G hR hL C   (q27.2) hr
set_option maxRecDepth 100000 in
theorem c_Mo_readOrder (l : Launch)  (v1 : Int32) (s : St) {q : St} (h : f_Mo_readOrder v1 s = some q) : CT SM l yX12_readOrder cX12_readOrder 7 none 4 87 (fun a => [.ref (a 0), .int v1]) s q (fun _ => none) :=
  ct_V okX_M (by decide) (fun _ => Nat.le_of_ble_eq_true rfl) (fun G hl hR hL C hr => t_Mo_readOrder G hR hL C (Acc := fun v => v = q)  v1 s (fun v hv => by rw [hv]; exact hr) ⟨_, h, rfl⟩)
noncomputable def f_Mo_readLine_J27  (s : St) : Option St :=
  (f_Mo_wrong s).bind fun q5 =>
  some (q5.2)
set_option maxHeartbeats 4000000 in
set_option maxRecDepth 100000 in
theorem t_Mo_readLine_J27 (G : GG) (hR : gR G = rmx 5 113) (hL : gL G = 4) (C : Cx SM G cX12_readLine RX12) {Acc : St → Prop}   (s : St) (hr : ∀ v : St, Acc v → RtV SM G cX12_readLine v) : JJ SM G Acc (f_Mo_readLine_J27 s) 27 [(0, .ref (ad G 0))] [] s := by
  unfold f_Mo_readLine_J27
  refine jr_aload_n C 0 rfl rfl dX12_readLine_27 ?_
  refine jr_bind (fun q5 e6 => ?_)
  refine jr_callVI C FX_10 km_X12_337 oS_0.1 oS_0.2 (rk hR rfl) (c_Mo_wrong (gl G) s e6) rfl rfl rfl (Nat.le_of_ble_eq_true rfl) dX12_readLine_28 ?_
  refine jr_pop C rfl dX12_readLine_31 ?_
  exact jr_end (fun h => hr (q5.2) h _ _ dX12_readLine_32)
noncomputable def f_Mo_readLine_J181 (v1 : Int32) (s : St) : Option St :=
  (f_Mo_readOrder v1 s).bind fun q13 =>
  some q13
set_option maxHeartbeats 4000000 in
set_option maxRecDepth 100000 in
theorem t_Mo_readLine_J181 (G : GG) (hR : gR G = rmx 5 113) (hL : gL G = 4) (C : Cx SM G cX12_readLine RX12) {Acc : St → Prop}  (v1 : Int32) (s : St) (hr : ∀ v : St, Acc v → RtV SM G cX12_readLine v) : JJ SM G Acc (f_Mo_readLine_J181 v1 s) 181 [(0, .ref (ad G 0)), (1, .int v1)] [] s := by
  unfold f_Mo_readLine_J181
  refine jr_aload_n C 0 rfl rfl dX12_readLine_181 ?_
  refine jr_iload_n C 1 rfl rfl dX12_readLine_182 ?_
  refine jr_bind (fun q13 e14 => ?_)
  refine jr_callVV C FX_10 km_X12_351 oS_0.1 oS_0.2 (rk hR rfl) (c_Mo_readOrder (gl G) v1 s e14) rfl rfl rfl (Nat.le_of_ble_eq_true rfl) dX12_readLine_183 ?_
  exact jr_end (fun h => hr q13 h _ _ dX12_readLine_186)
noncomputable def f_Mo_readLine_J170 (w0 : Int32) (s : St) : Option St :=
  if 0 ≤ w0 then
  f_Mo_readLine_J181 w0 s
  else
  (f_Mo_wrong s).bind fun q33 =>
  some (q33.2)
set_option maxHeartbeats 4000000 in
set_option maxRecDepth 100000 in
theorem t_Mo_readLine_J170 (G : GG) (hR : gR G = rmx 5 113) (hL : gL G = 4) (C : Cx SM G cX12_readLine RX12) {Acc : St → Prop}  (w0 : Int32) (s : St) (hr : ∀ v : St, Acc v → RtV SM G cX12_readLine v) : JJ SM G Acc (f_Mo_readLine_J170 w0 s) 170 [(0, .ref (ad G 0))] [.int w0] s := by
  unfold f_Mo_readLine_J170
  refine jr_istore_n C (lv' := [(1, .int w0), (0, .ref (ad G 0))]) (ltL hL rfl) rfl rfl dX12_readLine_170 ?_
  refine jr_iload_n C 0 rfl rfl dX12_readLine_171 ?_
  refine jr_if_ge C (tgt := 181) dX12_readLine_172 (by decide) (fun h32 => ?_) (fun h32 => ?_)
  · refine jo_pos h32 ?_
    refine jr_lv [1, 0] rfl ?_
    exact t_Mo_readLine_J181 G hR hL C  w0 s hr
  refine jo_neg h32 ?_
  refine jr_aload_n C 1 rfl rfl dX12_readLine_175 ?_
  refine jr_bind (fun q33 e34 => ?_)
  refine jr_callVI C FX_10 km_X12_337 oS_0.1 oS_0.2 (rk hR rfl) (c_Mo_wrong (gl G) s e34) rfl rfl rfl (Nat.le_of_ble_eq_true rfl) dX12_readLine_176 ?_
  refine jr_pop C rfl dX12_readLine_179 ?_
  exact jr_end (fun h => hr (q33.2) h _ _ dX12_readLine_180)
noncomputable def f_Mo_readLine_J91 (v2 : Int32) (v3 : Int32) (s : St) : Option St :=
  if (s.1 0 20) ≤ 0 then
  (gd (s.1 0 17) 201 <|
  lt (uI s 6 ((s.1 0 17) : Int32).toNatClampNeg v2) fun s24 =>
  gd (s24.1 0 17) 201 <|
  lt (uI s24 7 ((s24.1 0 17) : Int32).toNatClampNeg v3) fun s25 =>
  gd (s25.1 0 17) 201 <|
  lt (uI s25 8 ((s25.1 0 17) : Int32).toNatClampNeg (s25.1 0 15)) fun s26 =>
  lt (uI s26 0 17 ((s26.1 0 17) + 1)) fun s27 =>
  (f_Mo_next s27).bind fun q28 =>
  if (q28.1 0 24) = 0 then
  some q28
  else
  if (q28.1 0 24) = 2 then
  ((f_Mo_instruction q28).bind fun q35 =>
  f_Mo_readLine_J170 q35 q28)
  else
  f_Mo_readLine_J170 (-1) q28)
  else
  some s
set_option maxHeartbeats 4000000 in
set_option maxRecDepth 100000 in
theorem t_Mo_readLine_J91 (G : GG) (hR : gR G = rmx 5 113) (hL : gL G = 4) (C : Cx SM G cX12_readLine RX12) {Acc : St → Prop}  (v2 : Int32) (v3 : Int32) (s : St) (hr : ∀ v : St, Acc v → RtV SM G cX12_readLine v) : JJ SM G Acc (f_Mo_readLine_J91 v2 v3 s) 91 [(0, .ref (ad G 0)), (2, .int v2), (3, .int v3)] [] s := by
  unfold f_Mo_readLine_J91
  refine jr_aload_n C 0 rfl rfl dX12_readLine_91 ?_
  refine jr_getI C FX_10 20 oS_0.1 oS_0.2 ff_10_20.1 ff_10_20.2 fl_X12_272 dX12_readLine_92 ?_
  refine jr_if_le C (tgt := 99) dX12_readLine_95 (by decide) (fun h23 => ?_) (fun h23 => ?_)
  · refine jo_pos h23 ?_
    refine jr_aload_n C 0 rfl rfl dX12_readLine_99 ?_
    refine jr_getR C FX_10 7 oS_0.1 oS_0.2 ff_10_7.1 ff_10_7.2 rfl fl_X12_27 dX12_readLine_100 ?_
    refine jr_aload_n C 0 rfl rfl dX12_readLine_103 ?_
    refine jr_getI C FX_10 17 oS_0.1 oS_0.2 ff_10_17.1 ff_10_17.2 fl_X12_323 dX12_readLine_104 ?_
    refine jr_iload_n C 1 rfl rfl dX12_readLine_107 ?_
    refine jr_iast C oS_6.1 oS_6.2.1 oS_6.2.2 dX12_readLine_108 (jr_ltS fun s24 => ?_)
    refine jr_aload_n C 0 rfl rfl dX12_readLine_109 ?_
    refine jr_getR C FX_10 8 oS_0.1 oS_0.2 ff_10_8.1 ff_10_8.2 rfl fl_X12_30 dX12_readLine_110 ?_
    refine jr_aload_n C 0 rfl rfl dX12_readLine_113 ?_
    refine jr_getI C FX_10 17 oS_0.1 oS_0.2 ff_10_17.1 ff_10_17.2 fl_X12_323 dX12_readLine_114 ?_
    refine jr_iload_n C 2 rfl rfl dX12_readLine_117 ?_
    refine jr_iast C oS_7.1 oS_7.2.1 oS_7.2.2 dX12_readLine_118 (jr_ltS fun s25 => ?_)
    refine jr_aload_n C 0 rfl rfl dX12_readLine_119 ?_
    refine jr_getR C FX_10 9 oS_0.1 oS_0.2 ff_10_9.1 ff_10_9.2 rfl fl_X12_33 dX12_readLine_120 ?_
    refine jr_aload_n C 0 rfl rfl dX12_readLine_123 ?_
    refine jr_getI C FX_10 17 oS_0.1 oS_0.2 ff_10_17.1 ff_10_17.2 fl_X12_323 dX12_readLine_124 ?_
    refine jr_aload_n C 0 rfl rfl dX12_readLine_127 ?_
    refine jr_getI C FX_10 15 oS_0.1 oS_0.2 ff_10_15.1 ff_10_15.2 fl_X12_348 dX12_readLine_128 ?_
    refine jr_iast C oS_8.1 oS_8.2.1 oS_8.2.2 dX12_readLine_131 (jr_ltS fun s26 => ?_)
    refine jr_aload_n C 0 rfl rfl dX12_readLine_132 ?_
    refine jr_dup C rfl dX12_readLine_133 ?_
    refine jr_getI C FX_10 17 oS_0.1 oS_0.2 ff_10_17.1 ff_10_17.2 fl_X12_323 dX12_readLine_134 ?_
    refine jr_iconst C ic_1 dX12_readLine_137 ?_
    refine jr_iadd C dX12_readLine_138 ?_
    refine jr_putI C FX_10 17 oS_0.1 oS_0.2 ff_10_17.1 ff_10_17.2 rfl rfl fl_X12_323 dX12_readLine_139 (jr_ltS fun s27 => ?_)
    refine jr_aload_n C 0 rfl rfl dX12_readLine_142 ?_
    refine jr_bind (fun q28 e29 => ?_)
    refine jr_callVV C FX_10 km_X12_330 oS_0.1 oS_0.2 (rk hR rfl) (c_Mo_next (gl G) s27 e29) rfl rfl rfl (Nat.le_of_ble_eq_true rfl) dX12_readLine_143 ?_
    refine jr_aload_n C 0 rfl rfl dX12_readLine_146 ?_
    refine jr_getI C FX_10 24 oS_0.1 oS_0.2 ff_10_24.1 ff_10_24.2 fl_X12_295 dX12_readLine_147 ?_
    refine jr_if_ne C (tgt := 154) dX12_readLine_150 (by decide) (fun h30 => ?_) (fun h30 => ?_)
    · refine jo_neg h30 ?_
      refine jr_aload_n C 0 rfl rfl dX12_readLine_154 ?_
      refine jr_getI C FX_10 24 oS_0.1 oS_0.2 ff_10_24.1 ff_10_24.2 fl_X12_295 dX12_readLine_155 ?_
      refine jr_iconst C ic_2 dX12_readLine_158 ?_
      refine jr_icmp_ne C (tgt := 169) dX12_readLine_159 (by decide) (fun h31 => ?_) (fun h31 => ?_)
      · refine jo_neg h31 ?_
        refine jr_iconst C ic_m1 dX12_readLine_169 ?_
        refine jr_lv [0] rfl ?_
        exact t_Mo_readLine_J170 G hR hL C  (-1) q28 hr
      refine jo_pos h31 ?_
      refine jr_aload_n C 0 rfl rfl dX12_readLine_162 ?_
      refine jr_bind (fun q35 e36 => ?_)
      refine jr_callVI C FX_10 km_X12_341 oS_0.1 oS_0.2 (rk hR rfl) (c_Mo_instruction (gl G) q28 e36) rfl rfl rfl (Nat.le_of_ble_eq_true rfl) dX12_readLine_163 ?_
      refine jr_goto C (tgt := 170) dX12_readLine_166 (by decide) ?_
      refine jr_lv [0] rfl ?_
      exact t_Mo_readLine_J170 G hR hL C  q35 q28 hr
    refine jo_pos h30 ?_
    exact jr_end (fun h => hr q28 h _ _ dX12_readLine_153)
  refine jo_neg h23 ?_
  exact jr_end (fun h => hr s h _ _ dX12_readLine_98)
noncomputable def f_Mo_readLine  (s : St) : Option St :=
  (f_Mo_next s).bind fun q1 =>
  if (q1.1 0 24) = 0 then
  some q1
  else
  if (q1.1 0 24) = 2 then
  ((f_Mo_named q1).bind fun q7 =>
  if q7 < 0 then
  ((f_Mo_instruction q1).bind fun q10 =>
  if 0 ≤ q10 then
  f_Mo_readLine_J181 q10 q1
  else
  lt (q1.1 0 25) fun x15 =>
  lt ((q1.1 0 26) - (q1.1 0 25)) fun x16 =>
  (f_Mo_next q1).bind fun q17 =>
  if (q17.1 0 24) = 5 then
  ((f_Mo_labelOf x15 x16 q17).bind fun q20 =>
  if q20 < 0 then
  f_Mo_readLine_J91 x15 x16 q17
  else
  (f_Mo_fails 3 x15 q17).bind fun q37 =>
  f_Mo_readLine_J91 x15 x16 (q37.2))
  else
  (f_Mo_wrong q17).bind fun q39 =>
  some (q39.2))
  else
  f_Mo_readLine_J27 q1)
  else
  f_Mo_readLine_J27 q1
set_option maxHeartbeats 4000000 in
set_option maxRecDepth 100000 in
theorem t_Mo_readLine (G : GG) (hR : gR G = rmx 5 113) (hL : gL G = 4) (C : Cx SM G cX12_readLine RX12) {Acc : St → Prop}   (s : St) (hr : ∀ v : St, Acc v → RtV SM G cX12_readLine v) : JJ SM G Acc (f_Mo_readLine s) 0 [(0, .ref (ad G 0))] [] s := by
  unfold f_Mo_readLine
  refine jr_aload_n C 0 rfl rfl dX12_readLine_0 ?_
  refine jr_bind (fun q1 e2 => ?_)
  refine jr_callVV C FX_10 km_X12_330 oS_0.1 oS_0.2 (rk hR rfl) (c_Mo_next (gl G) s e2) rfl rfl rfl (Nat.le_of_ble_eq_true rfl) dX12_readLine_1 ?_
  refine jr_aload_n C 0 rfl rfl dX12_readLine_4 ?_
  refine jr_getI C FX_10 24 oS_0.1 oS_0.2 ff_10_24.1 ff_10_24.2 fl_X12_295 dX12_readLine_5 ?_
  refine jr_if_ne C (tgt := 12) dX12_readLine_8 (by decide) (fun h3 => ?_) (fun h3 => ?_)
  · refine jo_neg h3 ?_
    refine jr_aload_n C 0 rfl rfl dX12_readLine_12 ?_
    refine jr_getI C FX_10 24 oS_0.1 oS_0.2 ff_10_24.1 ff_10_24.2 fl_X12_295 dX12_readLine_13 ?_
    refine jr_iconst C ic_2 dX12_readLine_16 ?_
    refine jr_icmp_ne C (tgt := 27) dX12_readLine_17 (by decide) (fun h4 => ?_) (fun h4 => ?_)
    · refine jo_neg h4 ?_
      exact t_Mo_readLine_J27 G hR hL C   q1 hr
    refine jo_pos h4 ?_
    refine jr_aload_n C 0 rfl rfl dX12_readLine_20 ?_
    refine jr_bind (fun q7 e8 => ?_)
    refine jr_callVI C FX_10 km_X12_333 oS_0.1 oS_0.2 (rk hR rfl) (c_Mo_named (gl G) q1 e8) rfl rfl rfl (Nat.le_of_ble_eq_true rfl) dX12_readLine_21 ?_
    refine jr_if_lt C (tgt := 33) dX12_readLine_24 (by decide) (fun h9 => ?_) (fun h9 => ?_)
    · refine jo_pos h9 ?_
      refine jr_aload_n C 0 rfl rfl dX12_readLine_33 ?_
      refine jr_bind (fun q10 e11 => ?_)
      refine jr_callVI C FX_10 km_X12_341 oS_0.1 oS_0.2 (rk hR rfl) (c_Mo_instruction (gl G) q1 e11) rfl rfl rfl (Nat.le_of_ble_eq_true rfl) dX12_readLine_34 ?_
      refine jr_istore_n C (lv' := [(1, .int q10), (0, .ref (ad G 0))]) (ltL hL rfl) rfl rfl dX12_readLine_37 ?_
      refine jr_iload_n C 0 rfl rfl dX12_readLine_38 ?_
      refine jr_if_ge C (tgt := 181) dX12_readLine_39 (by decide) (fun h12 => ?_) (fun h12 => ?_)
      · refine jo_pos h12 ?_
        refine jr_lv [1, 0] rfl ?_
        exact t_Mo_readLine_J181 G hR hL C  q10 q1 hr
      refine jo_neg h12 ?_
      refine jr_aload_n C 1 rfl rfl dX12_readLine_42 ?_
      refine jr_getI C FX_10 25 oS_0.1 oS_0.2 ff_10_25.1 ff_10_25.2 fl_X12_288 dX12_readLine_43 ?_
      refine jr_ltI (fun x15 => ?_)
      refine jr_istore_n C (lv' := [(2, .int x15), (1, .int q10), (0, .ref (ad G 0))]) (ltL hL rfl) rfl rfl dX12_readLine_46 ?_
      refine jr_aload_n C 2 rfl rfl dX12_readLine_47 ?_
      refine jr_getI C FX_10 26 oS_0.1 oS_0.2 ff_10_26.1 ff_10_26.2 fl_X12_285 dX12_readLine_48 ?_
      refine jr_aload_n C 2 rfl rfl dX12_readLine_51 ?_
      refine jr_getI C FX_10 25 oS_0.1 oS_0.2 ff_10_25.1 ff_10_25.2 fl_X12_288 dX12_readLine_52 ?_
      refine jr_isub C dX12_readLine_55 ?_
      refine jr_ltI (fun x16 => ?_)
      refine jr_istore_n C (lv' := [(3, .int x16), (2, .int x15), (1, .int q10), (0, .ref (ad G 0))]) (ltL hL rfl) rfl rfl dX12_readLine_56 ?_
      refine jr_aload_n C 3 rfl rfl dX12_readLine_57 ?_
      refine jr_bind (fun q17 e18 => ?_)
      refine jr_callVV C FX_10 km_X12_330 oS_0.1 oS_0.2 (rk hR rfl) (c_Mo_next (gl G) q1 e18) rfl rfl rfl (Nat.le_of_ble_eq_true rfl) dX12_readLine_58 ?_
      refine jr_aload_n C 3 rfl rfl dX12_readLine_61 ?_
      refine jr_getI C FX_10 24 oS_0.1 oS_0.2 ff_10_24.1 ff_10_24.2 fl_X12_295 dX12_readLine_62 ?_
      refine jr_iconst C ic_5 dX12_readLine_65 ?_
      refine jr_icmp_eq C (tgt := 75) dX12_readLine_66 (by decide) (fun h19 => ?_) (fun h19 => ?_)
      · refine jo_pos h19 ?_
        refine jr_aload_n C 3 rfl rfl dX12_readLine_75 ?_
        refine jr_iload_n C 1 rfl rfl dX12_readLine_76 ?_
        refine jr_iload_n C 0 rfl rfl dX12_readLine_77 ?_
        refine jr_bind (fun q20 e21 => ?_)
        refine jr_callVI C FX_10 km_X12_344 oS_0.1 oS_0.2 (rk hR rfl) (c_Mo_labelOf (gl G) x15 x16 q17 e21) rfl rfl rfl (Nat.le_of_ble_eq_true rfl) dX12_readLine_78 ?_
        refine jr_if_lt C (tgt := 91) dX12_readLine_81 (by decide) (fun h22 => ?_) (fun h22 => ?_)
        · refine jo_pos h22 ?_
          refine jr_lv [3, 1, 0] rfl ?_
          exact t_Mo_readLine_J91 G hR hL C  x15 x16 q17 hr
        refine jo_neg h22 ?_
        refine jr_aload_n C 3 rfl rfl dX12_readLine_84 ?_
        refine jr_iconst C ic_3 dX12_readLine_85 ?_
        refine jr_iload_n C 1 rfl rfl dX12_readLine_86 ?_
        refine jr_bind (fun q37 e38 => ?_)
        refine jr_callVI C FX_10 km_X12_316 oS_0.1 oS_0.2 (rk hR rfl) (c_Mo_fails (gl G) 3 x15 q17 e38) rfl rfl rfl (Nat.le_of_ble_eq_true rfl) dX12_readLine_87 ?_
        refine jr_pop C rfl dX12_readLine_90 ?_
        refine jr_lv [3, 1, 0] rfl ?_
        exact t_Mo_readLine_J91 G hR hL C  x15 x16 (q37.2) hr
      refine jo_neg h19 ?_
      refine jr_aload_n C 3 rfl rfl dX12_readLine_69 ?_
      refine jr_bind (fun q39 e40 => ?_)
      refine jr_callVI C FX_10 km_X12_337 oS_0.1 oS_0.2 (rk hR rfl) (c_Mo_wrong (gl G) q17 e40) rfl rfl rfl (Nat.le_of_ble_eq_true rfl) dX12_readLine_70 ?_
      refine jr_pop C rfl dX12_readLine_73 ?_
      exact jr_end (fun h => hr (q39.2) h _ _ dX12_readLine_74)
    refine jo_neg h9 ?_
    exact t_Mo_readLine_J27 G hR hL C   q1 hr
  refine jo_pos h3 ?_
  exact jr_end (fun h => hr q1 h _ _ dX12_readLine_11)
set_option maxRecDepth 100000 in
theorem c_Mo_readLine (l : Launch)   (s : St) {q : St} (h : f_Mo_readLine s = some q) : CT SM l yX12_readLine cX12_readLine 4 none 5 113 (fun a => [.ref (a 0)]) s q (fun _ => none) :=
  ct_V okX_M (by decide) (fun _ => Nat.le_of_ble_eq_true rfl) (fun G hl hR hL C hr => t_Mo_readLine G hR hL C (Acc := fun v => v = q)   s (fun v hv => by rw [hv]; exact hr) ⟨_, h, rfl⟩)
noncomputable def f_Mo_tooMuch_J67_1 (v1 : Int32) (v2 : Int32) (s : St) : Option ((Int32 × Int32) ⊕ ((Int32 × Int32) ⊕ Int32)) :=
  some (.inl (v1, (v2 + 1)))
set_option maxHeartbeats 4000000 in
set_option maxRecDepth 100000 in
theorem t_Mo_tooMuch_J67_1 (G : GG) (hR : gR G = rmx 0 0) (hL : gL G = 4) (C : Cx SM G cX12_tooMuch RX12) {Acc : ((Int32 × Int32) ⊕ ((Int32 × Int32) ⊕ Int32)) → Prop}  (v1 : Int32) (v2 : Int32) (s : St) (hb1 : ∀ (a1 : Int32) (a2 : Int32), Acc (.inl (a1, a2)) → KK SM G 4 [(0, .ref (ad G 0)), (1, .int a1), (2, .int a2)] [] s) (hx1 : ∀ (a1 : Int32) (a2 : Int32), Acc (.inr (.inl (a1, a2))) → KK SM G 73 [(0, .ref (ad G 0)), (1, .int a1), (2, .int a2)] [] s) (hr : ∀ v : Int32, Acc (.inr (.inr v)) → RtI SM G cX12_tooMuch v s) : JJ SM G Acc (f_Mo_tooMuch_J67_1 v1 v2 s) 67 [(0, .ref (ad G 0)), (1, .int v1), (2, .int v2)] [] s := by
  unfold f_Mo_tooMuch_J67_1
  refine jr_iinc C 2 rfl ii_1 (lv' := [(2, .int (v2 + 1)), (0, .ref (ad G 0)), (1, .int v1)]) (ltL hL rfl) rfl dX12_tooMuch_67 ?_
  refine jr_goto C (tgt := 4) dX12_tooMuch_70 (by decide) ?_
  refine jr_lv [1, 2, 0] rfl ?_
  exact jr_end (fun h => hb1 v1 (v2 + 1) h)
noncomputable def f_Mo_tooMuch_J52_1 (v2 : Int32) (v3 : Int32) (w0 : Int32) (w1 : Int32) (s : St) : Option ((Int32 × Int32) ⊕ ((Int32 × Int32) ⊕ Int32)) :=
  lt (w1 + w0) fun x5 =>
  if v3 = 0 then
  f_Mo_tooMuch_J67_1 x5 v2 s
  else
  if x5 = 201 then
  some (.inr (.inr v2))
  else
  f_Mo_tooMuch_J67_1 x5 v2 s
set_option maxHeartbeats 4000000 in
set_option maxRecDepth 100000 in
theorem t_Mo_tooMuch_J52_1 (G : GG) (hR : gR G = rmx 0 0) (hL : gL G = 4) (C : Cx SM G cX12_tooMuch RX12) {Acc : ((Int32 × Int32) ⊕ ((Int32 × Int32) ⊕ Int32)) → Prop}  (v2 : Int32) (v3 : Int32) (w0 : Int32) (w1 : Int32) (s : St) (hb1 : ∀ (a1 : Int32) (a2 : Int32), Acc (.inl (a1, a2)) → KK SM G 4 [(0, .ref (ad G 0)), (1, .int a1), (2, .int a2)] [] s) (hx1 : ∀ (a1 : Int32) (a2 : Int32), Acc (.inr (.inl (a1, a2))) → KK SM G 73 [(0, .ref (ad G 0)), (1, .int a1), (2, .int a2)] [] s) (hr : ∀ v : Int32, Acc (.inr (.inr v)) → RtI SM G cX12_tooMuch v s) : JJ SM G Acc (f_Mo_tooMuch_J52_1 v2 v3 w0 w1 s) 52 [(0, .ref (ad G 0)), (2, .int v2), (3, .int v3)] [.int w0, .int w1] s := by
  unfold f_Mo_tooMuch_J52_1
  refine jr_iadd C dX12_tooMuch_52 ?_
  refine jr_ltI (fun x5 => ?_)
  refine jr_istore_n C (lv' := [(1, .int x5), (0, .ref (ad G 0)), (2, .int v2), (3, .int v3)]) (ltL hL rfl) rfl rfl dX12_tooMuch_53 ?_
  refine jr_iload_n C 3 rfl rfl dX12_tooMuch_54 ?_
  refine jr_if_eq C (tgt := 67) dX12_tooMuch_55 (by decide) (fun h6 => ?_) (fun h6 => ?_)
  · refine jo_pos h6 ?_
    refine jr_lv [1, 0, 2] rfl ?_
    exact t_Mo_tooMuch_J67_1 G hR hL C  x5 v2 s hb1 hx1 hr
  refine jo_neg h6 ?_
  refine jr_iload_n C 0 rfl rfl dX12_tooMuch_58 ?_
  refine jr_sipush C sp_201 dX12_tooMuch_59 ?_
  refine jr_icmp_ne C (tgt := 67) dX12_tooMuch_62 (by decide) (fun h7 => ?_) (fun h7 => ?_)
  · refine jo_neg h7 ?_
    refine jr_lv [1, 0, 2] rfl ?_
    exact t_Mo_tooMuch_J67_1 G hR hL C  x5 v2 s hb1 hx1 hr
  refine jo_pos h7 ?_
  refine jr_iload_n C 2 rfl rfl dX12_tooMuch_65 ?_
  exact jr_end (fun h => hr v2 h _ _ dX12_tooMuch_66)
noncomputable def f_Mo_tooMuch_J41_1 (v1 : Int32) (v2 : Int32) (w0 : Int32) (s : St) : Option ((Int32 × Int32) ⊕ ((Int32 × Int32) ⊕ Int32)) :=
  if w0 = 0 then
  f_Mo_tooMuch_J52_1 v2 w0 0 v1 s
  else
  f_Mo_tooMuch_J52_1 v2 w0 1 v1 s
set_option maxHeartbeats 4000000 in
set_option maxRecDepth 100000 in
theorem t_Mo_tooMuch_J41_1 (G : GG) (hR : gR G = rmx 0 0) (hL : gL G = 4) (C : Cx SM G cX12_tooMuch RX12) {Acc : ((Int32 × Int32) ⊕ ((Int32 × Int32) ⊕ Int32)) → Prop}  (v1 : Int32) (v2 : Int32) (w0 : Int32) (s : St) (hb1 : ∀ (a1 : Int32) (a2 : Int32), Acc (.inl (a1, a2)) → KK SM G 4 [(0, .ref (ad G 0)), (1, .int a1), (2, .int a2)] [] s) (hx1 : ∀ (a1 : Int32) (a2 : Int32), Acc (.inr (.inl (a1, a2))) → KK SM G 73 [(0, .ref (ad G 0)), (1, .int a1), (2, .int a2)] [] s) (hr : ∀ v : Int32, Acc (.inr (.inr v)) → RtI SM G cX12_tooMuch v s) : JJ SM G Acc (f_Mo_tooMuch_J41_1 v1 v2 w0 s) 41 [(0, .ref (ad G 0)), (1, .int v1), (2, .int v2)] [.int w0] s := by
  unfold f_Mo_tooMuch_J41_1
  refine jr_istore_n C (lv' := [(3, .int w0), (0, .ref (ad G 0)), (1, .int v1), (2, .int v2)]) (ltL hL rfl) rfl rfl dX12_tooMuch_41 ?_
  refine jr_iload_n C 2 rfl rfl dX12_tooMuch_42 ?_
  refine jr_iload_n C 0 rfl rfl dX12_tooMuch_43 ?_
  refine jr_if_eq C (tgt := 51) dX12_tooMuch_44 (by decide) (fun h4 => ?_) (fun h4 => ?_)
  · refine jo_pos h4 ?_
    refine jr_iconst C ic_0 dX12_tooMuch_51 ?_
    refine jr_lv [1, 3, 0] rfl ?_
    exact t_Mo_tooMuch_J52_1 G hR hL C  v2 w0 0 v1 s hb1 hx1 hr
  refine jo_neg h4 ?_
  refine jr_iconst C ic_1 dX12_tooMuch_47 ?_
  refine jr_goto C (tgt := 52) dX12_tooMuch_48 (by decide) ?_
  refine jr_lv [1, 3, 0] rfl ?_
  exact t_Mo_tooMuch_J52_1 G hR hL C  v2 w0 1 v1 s hb1 hx1 hr
noncomputable def f_Mo_tooMuch_J36_1 (v1 : Int32) (v2 : Int32) (s : St) : Option ((Int32 × Int32) ⊕ ((Int32 × Int32) ⊕ Int32)) :=
  f_Mo_tooMuch_J41_1 v1 v2 1 s
set_option maxHeartbeats 4000000 in
set_option maxRecDepth 100000 in
theorem t_Mo_tooMuch_J36_1 (G : GG) (hR : gR G = rmx 0 0) (hL : gL G = 4) (C : Cx SM G cX12_tooMuch RX12) {Acc : ((Int32 × Int32) ⊕ ((Int32 × Int32) ⊕ Int32)) → Prop}  (v1 : Int32) (v2 : Int32) (s : St) (hb1 : ∀ (a1 : Int32) (a2 : Int32), Acc (.inl (a1, a2)) → KK SM G 4 [(0, .ref (ad G 0)), (1, .int a1), (2, .int a2)] [] s) (hx1 : ∀ (a1 : Int32) (a2 : Int32), Acc (.inr (.inl (a1, a2))) → KK SM G 73 [(0, .ref (ad G 0)), (1, .int a1), (2, .int a2)] [] s) (hr : ∀ v : Int32, Acc (.inr (.inr v)) → RtI SM G cX12_tooMuch v s) : JJ SM G Acc (f_Mo_tooMuch_J36_1 v1 v2 s) 36 [(0, .ref (ad G 0)), (1, .int v1), (2, .int v2)] [] s := by
  unfold f_Mo_tooMuch_J36_1
  refine jr_iconst C ic_1 dX12_tooMuch_36 ?_
  refine jr_goto C (tgt := 41) dX12_tooMuch_37 (by decide) ?_
  exact t_Mo_tooMuch_J41_1 G hR hL C  v1 v2 1 s hb1 hx1 hr
noncomputable def f_Mo_tooMuch_L4 (v1 : Int32) (v2 : Int32) (s : St) : Option ((Int32 × Int32) ⊕ ((Int32 × Int32) ⊕ Int32)) :=
  if (s.1 0 1) ≤ v2 then
  some (.inr (.inl (v1, v2)))
  else
  if 3000 ≤ v2 then
  some (.inr (.inl (v1, v2)))
  else
  if v2 = 0 then
  f_Mo_tooMuch_J36_1 v1 v2 s
  else
  gd (v2 - 1) 4000 <|
  if (s.1 1 ((v2 - 1) : Int32).toNatClampNeg) = 10 then
  f_Mo_tooMuch_J36_1 v1 v2 s
  else
  f_Mo_tooMuch_J41_1 v1 v2 0 s
set_option maxHeartbeats 4000000 in
set_option maxRecDepth 100000 in
theorem t_Mo_tooMuch_L4 (G : GG) (hR : gR G = rmx 0 0) (hL : gL G = 4) (C : Cx SM G cX12_tooMuch RX12) {Acc : ((Int32 × Int32) ⊕ ((Int32 × Int32) ⊕ Int32)) → Prop}  (v1 : Int32) (v2 : Int32) (s : St) (hb1 : ∀ (a1 : Int32) (a2 : Int32), Acc (.inl (a1, a2)) → KK SM G 4 [(0, .ref (ad G 0)), (1, .int a1), (2, .int a2)] [] s) (hx1 : ∀ (a1 : Int32) (a2 : Int32), Acc (.inr (.inl (a1, a2))) → KK SM G 73 [(0, .ref (ad G 0)), (1, .int a1), (2, .int a2)] [] s) (hr : ∀ v : Int32, Acc (.inr (.inr v)) → RtI SM G cX12_tooMuch v s) : JJ SM G Acc (f_Mo_tooMuch_L4 v1 v2 s) 4 [(0, .ref (ad G 0)), (1, .int v1), (2, .int v2)] [] s := by
  unfold f_Mo_tooMuch_L4
  refine jr_iload_n C 2 rfl rfl dX12_tooMuch_4 ?_
  refine jr_aload_n C 0 rfl rfl dX12_tooMuch_5 ?_
  refine jr_getI C FX_10 1 oS_0.1 oS_0.2 ff_10_1.1 ff_10_1.2 fl_X12_368 dX12_tooMuch_6 ?_
  refine jr_icmp_ge C (tgt := 73) dX12_tooMuch_9 (by decide) (fun h1 => ?_) (fun h1 => ?_)
  · refine jo_pos h1 ?_
    exact jr_end (fun h => hx1 v1 v2 h)
  refine jo_neg h1 ?_
  refine jr_iload_n C 2 rfl rfl dX12_tooMuch_12 ?_
  refine jr_sipush C sp_3000 dX12_tooMuch_13 ?_
  refine jr_icmp_ge C (tgt := 73) dX12_tooMuch_16 (by decide) (fun h2 => ?_) (fun h2 => ?_)
  · refine jo_pos h2 ?_
    exact jr_end (fun h => hx1 v1 v2 h)
  refine jo_neg h2 ?_
  refine jr_iload_n C 2 rfl rfl dX12_tooMuch_19 ?_
  refine jr_if_eq C (tgt := 36) dX12_tooMuch_20 (by decide) (fun h3 => ?_) (fun h3 => ?_)
  · refine jo_pos h3 ?_
    exact t_Mo_tooMuch_J36_1 G hR hL C  v1 v2 s hb1 hx1 hr
  refine jo_neg h3 ?_
  refine jr_aload_n C 0 rfl rfl dX12_tooMuch_23 ?_
  refine jr_getR C FX_10 0 oS_0.1 oS_0.2 ff_10_0.1 ff_10_0.2 rfl fl_X12_7 dX12_tooMuch_24 ?_
  refine jr_iload_n C 2 rfl rfl dX12_tooMuch_27 ?_
  refine jr_iconst C ic_1 dX12_tooMuch_28 ?_
  refine jr_isub C dX12_tooMuch_29 ?_
  refine jr_bald C oS_1.1 oS_1.2.1 oS_1.2.2 dX12_tooMuch_30 ?_
  refine jr_bipush C bp_10 dX12_tooMuch_31 ?_
  refine jr_icmp_ne C (tgt := 40) dX12_tooMuch_33 (by decide) (fun h8 => ?_) (fun h8 => ?_)
  · refine jo_neg h8 ?_
    refine jr_iconst C ic_0 dX12_tooMuch_40 ?_
    exact t_Mo_tooMuch_J41_1 G hR hL C  v1 v2 0 s hb1 hx1 hr
  refine jo_pos h8 ?_
  exact t_Mo_tooMuch_J36_1 G hR hL C  v1 v2 s hb1 hx1 hr
noncomputable def f_Mo_tooMuch  (s : St) : Option Int32 :=
  (wh (fun a : (Int32 × Int32) => f_Mo_tooMuch_L4 a.1 a.2 s) (0, 0)).bind (Sum.elim (fun b9 =>
  if (s.1 0 1) ≤ 3000 then
  some (-1)
  else
  some 3000) some)
set_option maxHeartbeats 4000000 in
set_option maxRecDepth 100000 in
theorem t_Mo_tooMuch (G : GG) (hR : gR G = rmx 0 0) (hL : gL G = 4) (C : Cx SM G cX12_tooMuch RX12) {Acc : Int32 → Prop}   (s : St) (hr : ∀ v : Int32, Acc v → RtI SM G cX12_tooMuch v s) : JJ SM G Acc (f_Mo_tooMuch s) 0 [(0, .ref (ad G 0))] [] s := by
  unfold f_Mo_tooMuch
  refine jr_iconst C ic_0 dX12_tooMuch_0 ?_
  refine jr_istore_n C (lv' := [(1, .int 0), (0, .ref (ad G 0))]) (ltL hL rfl) rfl rfl dX12_tooMuch_1 ?_
  refine jr_iconst C ic_0 dX12_tooMuch_2 ?_
  refine jr_istore_n C (lv' := [(2, .int 0), (1, .int 0), (0, .ref (ad G 0))]) (ltL hL rfl) rfl rfl dX12_tooMuch_3 ?_
  refine jr_lv [2, 1, 0] rfl ?_
  refine jr_loopE (pc := 4) (pcx := 73) (f := fun a : (Int32 × Int32) => f_Mo_tooMuch_L4 a.1 a.2 s) (fun a : (Int32 × Int32) => [(0, .ref (ad G 0)), (1, .int (a.1)), (2, .int (a.2))]) (fun a : (Int32 × Int32) => s) (0, 0) (fun a => t_Mo_tooMuch_L4 G hR hL C  a.1 a.2 s (fun _ _ h => h) (fun _ _ h => h) hr) (fun b9 => ?_)
  refine jr_aload_n C 0 rfl rfl dX12_tooMuch_73 ?_
  refine jr_getI C FX_10 1 oS_0.1 oS_0.2 ff_10_1.1 ff_10_1.2 fl_X12_368 dX12_tooMuch_74 ?_
  refine jr_sipush C sp_3000 dX12_tooMuch_77 ?_
  refine jr_icmp_le C (tgt := 89) dX12_tooMuch_80 (by decide) (fun h10 => ?_) (fun h10 => ?_)
  · refine jo_pos h10 ?_
    refine jr_iconst C ic_m1 dX12_tooMuch_89 ?_
    exact jr_end (fun h => hr (-1) h _ _ dX12_tooMuch_90)
  refine jo_neg h10 ?_
  refine jr_sipush C sp_3000 dX12_tooMuch_83 ?_
  refine jr_goto C (tgt := 90) dX12_tooMuch_86 (by decide) ?_
  exact jr_end (fun h => hr 3000 h _ _ dX12_tooMuch_90)
set_option maxRecDepth 100000 in
theorem c_Mo_tooMuch (l : Launch)   (s : St) {q : Int32} (h : f_Mo_tooMuch s = some q) : CT SM l yX12_tooMuch cX12_tooMuch 4 (some .int) 0 0 (fun a => [.ref (a 0)]) s s (fun _ => some (.int q)) :=
  ct_I okX_M (by decide) (fun _ => Nat.le_of_ble_eq_true rfl) (fun G hl hR hL C hr => t_Mo_tooMuch G hR hL C (Acc := fun v => v = q)   s (fun v hv => by rw [hv]; exact hr) ⟨_, h, rfl⟩)
noncomputable def f_Mo_drawn  (s : St) : Option (Int32 × St) :=
  gd (s.1 0 28) 2 <|
  gd (s.1 0 28) 2 <|
  lt (uI s 24 ((s.1 0 28) : Int32).toNatClampNeg (((s.1 24 ((s.1 0 28) : Int32).toNatClampNeg) * 1664525) + 1013904223)) fun s1 =>
  gd (s1.1 0 28) 2 <|
  gd (s1.1 0 28) 2 <|
  some (((s1.1 24 ((s1.1 0 28) : Int32).toNatClampNeg) ^^^ ((((s1.1 24 ((s1.1 0 28) : Int32).toNatClampNeg)).toUInt32 >>> ((16 : Int32).toUInt32 &&& Int32.toUInt32 31)).toInt32)), s1)
set_option maxHeartbeats 4000000 in
set_option maxRecDepth 100000 in
theorem t_Mo_drawn (G : GG) (hR : gR G = rmx 0 0) (hL : gL G = 1) (C : Cx SM G cX12_drawn RX12) {Acc : (Int32 × St) → Prop}   (s : St) (hr : ∀ v : (Int32 × St), Acc v → RtI SM G cX12_drawn v.1 v.2) : JJ SM G Acc (f_Mo_drawn s) 0 [(0, .ref (ad G 0))] [] s := by
  unfold f_Mo_drawn
  refine jr_aload_n C 0 rfl rfl dX12_drawn_0 ?_
  refine jr_getR C FX_10 41 oS_0.1 oS_0.2 ff_10_41.1 ff_10_41.2 rfl fl_X12_88 dX12_drawn_1 ?_
  refine jr_aload_n C 0 rfl rfl dX12_drawn_4 ?_
  refine jr_getI C FX_10 28 oS_0.1 oS_0.2 ff_10_28.1 ff_10_28.2 fl_X12_394 dX12_drawn_5 ?_
  refine jr_aload_n C 0 rfl rfl dX12_drawn_8 ?_
  refine jr_getR C FX_10 41 oS_0.1 oS_0.2 ff_10_41.1 ff_10_41.2 rfl fl_X12_88 dX12_drawn_9 ?_
  refine jr_aload_n C 0 rfl rfl dX12_drawn_12 ?_
  refine jr_getI C FX_10 28 oS_0.1 oS_0.2 ff_10_28.1 ff_10_28.2 fl_X12_394 dX12_drawn_13 ?_
  refine jr_iald C oS_24.1 oS_24.2.1 oS_24.2.2 dX12_drawn_16 ?_
  refine jr_ldcw C kc_X12_418 dX12_drawn_17 ?_
  refine jr_imul C dX12_drawn_20 ?_
  refine jr_ldcw C kc_X12_419 dX12_drawn_21 ?_
  refine jr_iadd C dX12_drawn_24 ?_
  refine jr_iast C oS_24.1 oS_24.2.1 oS_24.2.2 dX12_drawn_25 (jr_ltS fun s1 => ?_)
  refine jr_aload_n C 0 rfl rfl dX12_drawn_26 ?_
  refine jr_getR C FX_10 41 oS_0.1 oS_0.2 ff_10_41.1 ff_10_41.2 rfl fl_X12_88 dX12_drawn_27 ?_
  refine jr_aload_n C 0 rfl rfl dX12_drawn_30 ?_
  refine jr_getI C FX_10 28 oS_0.1 oS_0.2 ff_10_28.1 ff_10_28.2 fl_X12_394 dX12_drawn_31 ?_
  refine jr_iald C oS_24.1 oS_24.2.1 oS_24.2.2 dX12_drawn_34 ?_
  refine jr_aload_n C 0 rfl rfl dX12_drawn_35 ?_
  refine jr_getR C FX_10 41 oS_0.1 oS_0.2 ff_10_41.1 ff_10_41.2 rfl fl_X12_88 dX12_drawn_36 ?_
  refine jr_aload_n C 0 rfl rfl dX12_drawn_39 ?_
  refine jr_getI C FX_10 28 oS_0.1 oS_0.2 ff_10_28.1 ff_10_28.2 fl_X12_394 dX12_drawn_40 ?_
  refine jr_iald C oS_24.1 oS_24.2.1 oS_24.2.2 dX12_drawn_43 ?_
  refine jr_bipush C bp_16 dX12_drawn_44 ?_
  refine jr_iushr C dX12_drawn_46 ?_
  refine jr_ixor C dX12_drawn_47 ?_
  exact jr_end (fun h => hr (((s1.1 24 ((s1.1 0 28) : Int32).toNatClampNeg) ^^^ ((((s1.1 24 ((s1.1 0 28) : Int32).toNatClampNeg)).toUInt32 >>> ((16 : Int32).toUInt32 &&& Int32.toUInt32 31)).toInt32)), s1) h _ _ dX12_drawn_48)
set_option maxRecDepth 100000 in
theorem c_Mo_drawn (l : Launch)   (s : St) {q : (Int32 × St)} (h : f_Mo_drawn s = some q) : CT SM l yX12_drawn cX12_drawn 1 (some .int) 0 0 (fun a => [.ref (a 0)]) s q.2 (fun _ => some (.int q.1)) :=
  ct_I okX_M (by decide) (fun _ => Nat.le_of_ble_eq_true rfl) (fun G hl hR hL C hr => t_Mo_drawn G hR hL C (Acc := fun v => v = q)   s (fun v hv => by rw [hv]; exact hr) ⟨_, h, rfl⟩)
noncomputable def f_Mo_start_L147 (v4 : Int32) (s : St) : Option ((Int32 × St) ⊕ (Int32 × St)) :=
  if 7 ≤ v4 then
  some (.inr (v4, s))
  else
  (f_Mo_drawn s).bind fun q14 =>
  gd ((8 * (s.1 0 28)) + v4) 16 <|
  lt (uI (q14.2) 13 (((8 * (s.1 0 28)) + v4) : Int32).toNatClampNeg (q14.1)) fun s16 =>
  gd ((8 * (s16.1 0 28)) + v4) 16 <|
  lt (uI s16 14 (((8 * (s16.1 0 28)) + v4) : Int32).toNatClampNeg (-1)) fun s17 =>
  gd ((8 * (s17.1 0 28)) + v4) 16 <|
  lt (uI s17 15 (((8 * (s17.1 0 28)) + v4) : Int32).toNatClampNeg (v4 + 1)) fun s18 =>
  some (.inl ((v4 + 1), s18))
set_option maxHeartbeats 4000000 in
set_option maxRecDepth 100000 in
theorem t_Mo_start_L147 (G : GG) (hR : gR G = rmx 1 20) (hL : gL G = 6) (C : Cx SM G cX12_start RX12) {Acc : ((Int32 × St) ⊕ (Int32 × St)) → Prop}  (v4 : Int32) (s : St) (hb1 : ∀ (a4 : Int32) (t : St), Acc (.inl (a4, t)) → KK SM G 147 [(0, .ref (ad G 0)), (4, .int a4)] [] t) (hx1 : ∀ (a4 : Int32) (t : St), Acc (.inr (a4, t)) → KK SM G 214 [(0, .ref (ad G 0)), (4, .int a4)] [] t) : JJ SM G Acc (f_Mo_start_L147 v4 s) 147 [(0, .ref (ad G 0)), (4, .int v4)] [] s := by
  unfold f_Mo_start_L147
  refine jr_iload C 1 rfl dX12_start_147 ?_
  refine jr_bipush C bp_7 dX12_start_149 ?_
  refine jr_icmp_ge C (tgt := 214) dX12_start_151 (by decide) (fun h13 => ?_) (fun h13 => ?_)
  · refine jo_pos h13 ?_
    exact jr_end (fun h => hx1 v4 s h)
  refine jo_neg h13 ?_
  refine jr_aload_n C 0 rfl rfl dX12_start_154 ?_
  refine jr_getR C FX_10 30 oS_0.1 oS_0.2 ff_10_30.1 ff_10_30.2 rfl fl_X12_55 dX12_start_155 ?_
  refine jr_bipush C bp_8 dX12_start_158 ?_
  refine jr_aload_n C 0 rfl rfl dX12_start_160 ?_
  refine jr_getI C FX_10 28 oS_0.1 oS_0.2 ff_10_28.1 ff_10_28.2 fl_X12_394 dX12_start_161 ?_
  refine jr_imul C dX12_start_164 ?_
  refine jr_iload C 1 rfl dX12_start_165 ?_
  refine jr_iadd C dX12_start_167 ?_
  refine jr_aload_n C 0 rfl rfl dX12_start_168 ?_
  refine jr_bind (fun q14 e15 => ?_)
  refine jr_callVI C FX_10 km_X12_415 oS_0.1 oS_0.2 (rk hR rfl) (c_Mo_drawn (gl G) s e15) rfl rfl rfl (Nat.le_of_ble_eq_true rfl) dX12_start_169 ?_
  refine jr_iast C oS_13.1 oS_13.2.1 oS_13.2.2 dX12_start_172 (jr_ltS fun s16 => ?_)
  refine jr_aload_n C 0 rfl rfl dX12_start_173 ?_
  refine jr_getR C FX_10 31 oS_0.1 oS_0.2 ff_10_31.1 ff_10_31.2 rfl fl_X12_58 dX12_start_174 ?_
  refine jr_bipush C bp_8 dX12_start_177 ?_
  refine jr_aload_n C 0 rfl rfl dX12_start_179 ?_
  refine jr_getI C FX_10 28 oS_0.1 oS_0.2 ff_10_28.1 ff_10_28.2 fl_X12_394 dX12_start_180 ?_
  refine jr_imul C dX12_start_183 ?_
  refine jr_iload C 1 rfl dX12_start_184 ?_
  refine jr_iadd C dX12_start_186 ?_
  refine jr_iconst C ic_m1 dX12_start_187 ?_
  refine jr_iast C oS_14.1 oS_14.2.1 oS_14.2.2 dX12_start_188 (jr_ltS fun s17 => ?_)
  refine jr_aload_n C 0 rfl rfl dX12_start_189 ?_
  refine jr_getR C FX_10 32 oS_0.1 oS_0.2 ff_10_32.1 ff_10_32.2 rfl fl_X12_61 dX12_start_190 ?_
  refine jr_bipush C bp_8 dX12_start_193 ?_
  refine jr_aload_n C 0 rfl rfl dX12_start_195 ?_
  refine jr_getI C FX_10 28 oS_0.1 oS_0.2 ff_10_28.1 ff_10_28.2 fl_X12_394 dX12_start_196 ?_
  refine jr_imul C dX12_start_199 ?_
  refine jr_iload C 1 rfl dX12_start_200 ?_
  refine jr_iadd C dX12_start_202 ?_
  refine jr_iload C 1 rfl dX12_start_203 ?_
  refine jr_iconst C ic_1 dX12_start_205 ?_
  refine jr_iadd C dX12_start_206 ?_
  refine jr_iast C oS_15.1 oS_15.2.1 oS_15.2.2 dX12_start_207 (jr_ltS fun s18 => ?_)
  refine jr_iinc C 1 rfl ii_1 (lv' := [(4, .int (v4 + 1)), (0, .ref (ad G 0))]) (ltL hL rfl) rfl dX12_start_208 ?_
  refine jr_goto C (tgt := 147) dX12_start_211 (by decide) ?_
  refine jr_lv [1, 0] rfl ?_
  exact jr_end (fun h => hb1 (v4 + 1) s18 h)
noncomputable def f_Mo_start_J342_1 (v4 : Int32) (v5 : Int32) (w0 : Int32) (w1 : Int32) (s : St) : Option ((Int32 × St) ⊕ (Int32 × St)) :=
  gd w1 8192 <|
  lt (uI s 17 (w1 : Int32).toNatClampNeg w0) fun s27 =>
  gd ((4096 * (s27.1 0 28)) + v4) 8192 <|
  lt (uI s27 18 (((4096 * (s27.1 0 28)) + v4) : Int32).toNatClampNeg 0) fun s28 =>
  gd ((4096 * (s28.1 0 28)) + v4) 8192 <|
  lt (uI s28 19 (((4096 * (s28.1 0 28)) + v4) : Int32).toNatClampNeg (bN v5)) fun s29 =>
  some (.inl ((v4 + 1), s29))
set_option maxHeartbeats 4000000 in
set_option maxRecDepth 100000 in
theorem t_Mo_start_J342_1 (G : GG) (hR : gR G = rmx 1 20) (hL : gL G = 6) (C : Cx SM G cX12_start RX12) {Acc : ((Int32 × St) ⊕ (Int32 × St)) → Prop}  (v4 : Int32) (v5 : Int32) (w0 : Int32) (w1 : Int32) (s : St) (hb1 : ∀ (a4 : Int32) (t : St), Acc (.inl (a4, t)) → KK SM G 267 [(0, .ref (ad G 0)), (4, .int a4)] [] t) (hx1 : ∀ (a4 : Int32) (t : St), Acc (.inr (a4, t)) → KK SM G 384 [(0, .ref (ad G 0)), (4, .int a4)] [] t) : JJ SM G Acc (f_Mo_start_J342_1 v4 v5 w0 w1 s) 342 [(0, .ref (ad G 0)), (4, .int v4), (5, .int v5)] [.int w0, .int w1, .ref (ad G 17)] s := by
  unfold f_Mo_start_J342_1
  refine jr_iast C oS_17.1 oS_17.2.1 oS_17.2.2 dX12_start_342 (jr_ltS fun s27 => ?_)
  refine jr_aload_n C 0 rfl rfl dX12_start_343 ?_
  refine jr_getR C FX_10 35 oS_0.1 oS_0.2 ff_10_35.1 ff_10_35.2 rfl fl_X12_70 dX12_start_344 ?_
  refine jr_sipush C sp_4096 dX12_start_347 ?_
  refine jr_aload_n C 0 rfl rfl dX12_start_350 ?_
  refine jr_getI C FX_10 28 oS_0.1 oS_0.2 ff_10_28.1 ff_10_28.2 fl_X12_394 dX12_start_351 ?_
  refine jr_imul C dX12_start_354 ?_
  refine jr_iload C 1 rfl dX12_start_355 ?_
  refine jr_iadd C dX12_start_357 ?_
  refine jr_iconst C ic_0 dX12_start_358 ?_
  refine jr_iast C oS_18.1 oS_18.2.1 oS_18.2.2 dX12_start_359 (jr_ltS fun s28 => ?_)
  refine jr_aload_n C 0 rfl rfl dX12_start_360 ?_
  refine jr_getR C FX_10 36 oS_0.1 oS_0.2 ff_10_36.1 ff_10_36.2 rfl fl_X12_73 dX12_start_361 ?_
  refine jr_sipush C sp_4096 dX12_start_364 ?_
  refine jr_aload_n C 0 rfl rfl dX12_start_367 ?_
  refine jr_getI C FX_10 28 oS_0.1 oS_0.2 ff_10_28.1 ff_10_28.2 fl_X12_394 dX12_start_368 ?_
  refine jr_imul C dX12_start_371 ?_
  refine jr_iload C 1 rfl dX12_start_372 ?_
  refine jr_iadd C dX12_start_374 ?_
  refine jr_iload C 2 rfl dX12_start_375 ?_
  refine jr_zast C oS_19.1 oS_19.2.1 oS_19.2.2 dX12_start_377 (jr_ltS fun s29 => ?_)
  refine jr_iinc C 1 rfl ii_1 (lv' := [(4, .int (v4 + 1)), (0, .ref (ad G 0)), (5, .int v5)]) (ltL hL rfl) rfl dX12_start_378 ?_
  refine jr_goto C (tgt := 267) dX12_start_381 (by decide) ?_
  refine jr_lv [1, 0] rfl ?_
  exact jr_end (fun h => hb1 (v4 + 1) s29 h)
noncomputable def f_Mo_start_J296_1 (v4 : Int32) (w0 : Int32) (s : St) : Option ((Int32 × St) ⊕ (Int32 × St)) :=
  gd ((4096 * (s.1 0 28)) + v4) 8192 <|
  lt (uI s 16 (((4096 * (s.1 0 28)) + v4) : Int32).toNatClampNeg 0) fun s25 =>
  if w0 = 0 then
  f_Mo_start_J342_1 v4 w0 255 ((4096 * (s25.1 0 28)) + v4) s25
  else
  f_Mo_start_J342_1 v4 w0 0 ((4096 * (s25.1 0 28)) + v4) s25
set_option maxHeartbeats 4000000 in
set_option maxRecDepth 100000 in
theorem t_Mo_start_J296_1 (G : GG) (hR : gR G = rmx 1 20) (hL : gL G = 6) (C : Cx SM G cX12_start RX12) {Acc : ((Int32 × St) ⊕ (Int32 × St)) → Prop}  (v4 : Int32) (w0 : Int32) (s : St) (hb1 : ∀ (a4 : Int32) (t : St), Acc (.inl (a4, t)) → KK SM G 267 [(0, .ref (ad G 0)), (4, .int a4)] [] t) (hx1 : ∀ (a4 : Int32) (t : St), Acc (.inr (a4, t)) → KK SM G 384 [(0, .ref (ad G 0)), (4, .int a4)] [] t) : JJ SM G Acc (f_Mo_start_J296_1 v4 w0 s) 296 [(0, .ref (ad G 0)), (4, .int v4)] [.int w0] s := by
  unfold f_Mo_start_J296_1
  refine jr_istore C (lv' := [(5, .int w0), (0, .ref (ad G 0)), (4, .int v4)]) (ltL hL rfl) rfl dX12_start_296 ?_
  refine jr_aload_n C 1 rfl rfl dX12_start_298 ?_
  refine jr_getR C FX_10 33 oS_0.1 oS_0.2 ff_10_33.1 ff_10_33.2 rfl fl_X12_64 dX12_start_299 ?_
  refine jr_sipush C sp_4096 dX12_start_302 ?_
  refine jr_aload_n C 1 rfl rfl dX12_start_305 ?_
  refine jr_getI C FX_10 28 oS_0.1 oS_0.2 ff_10_28.1 ff_10_28.2 fl_X12_394 dX12_start_306 ?_
  refine jr_imul C dX12_start_309 ?_
  refine jr_iload C 2 rfl dX12_start_310 ?_
  refine jr_iadd C dX12_start_312 ?_
  refine jr_iconst C ic_0 dX12_start_313 ?_
  refine jr_iast C oS_16.1 oS_16.2.1 oS_16.2.2 dX12_start_314 (jr_ltS fun s25 => ?_)
  refine jr_aload_n C 1 rfl rfl dX12_start_315 ?_
  refine jr_getR C FX_10 34 oS_0.1 oS_0.2 ff_10_34.1 ff_10_34.2 rfl fl_X12_67 dX12_start_316 ?_
  refine jr_sipush C sp_4096 dX12_start_319 ?_
  refine jr_aload_n C 1 rfl rfl dX12_start_322 ?_
  refine jr_getI C FX_10 28 oS_0.1 oS_0.2 ff_10_28.1 ff_10_28.2 fl_X12_394 dX12_start_323 ?_
  refine jr_imul C dX12_start_326 ?_
  refine jr_iload C 2 rfl dX12_start_327 ?_
  refine jr_iadd C dX12_start_329 ?_
  refine jr_iload C 0 rfl dX12_start_330 ?_
  refine jr_if_eq C (tgt := 339) dX12_start_332 (by decide) (fun h26 => ?_) (fun h26 => ?_)
  · refine jo_pos h26 ?_
    refine jr_sipush C sp_255 dX12_start_339 ?_
    refine jr_lv [1, 2, 0] rfl ?_
    exact t_Mo_start_J342_1 G hR hL C  v4 w0 255 ((4096 * (s25.1 0 28)) + v4) s25 hb1 hx1
  refine jo_neg h26 ?_
  refine jr_iconst C ic_0 dX12_start_335 ?_
  refine jr_goto C (tgt := 342) dX12_start_336 (by decide) ?_
  refine jr_lv [1, 2, 0] rfl ?_
  exact t_Mo_start_J342_1 G hR hL C  v4 w0 0 ((4096 * (s25.1 0 28)) + v4) s25 hb1 hx1
noncomputable def f_Mo_start_J295_1 (v4 : Int32) (s : St) : Option ((Int32 × St) ⊕ (Int32 × St)) :=
  f_Mo_start_J296_1 v4 0 s
set_option maxHeartbeats 4000000 in
set_option maxRecDepth 100000 in
theorem t_Mo_start_J295_1 (G : GG) (hR : gR G = rmx 1 20) (hL : gL G = 6) (C : Cx SM G cX12_start RX12) {Acc : ((Int32 × St) ⊕ (Int32 × St)) → Prop}  (v4 : Int32) (s : St) (hb1 : ∀ (a4 : Int32) (t : St), Acc (.inl (a4, t)) → KK SM G 267 [(0, .ref (ad G 0)), (4, .int a4)] [] t) (hx1 : ∀ (a4 : Int32) (t : St), Acc (.inr (a4, t)) → KK SM G 384 [(0, .ref (ad G 0)), (4, .int a4)] [] t) : JJ SM G Acc (f_Mo_start_J295_1 v4 s) 295 [(0, .ref (ad G 0)), (4, .int v4)] [] s := by
  unfold f_Mo_start_J295_1
  refine jr_iconst C ic_0 dX12_start_295 ?_
  exact t_Mo_start_J296_1 G hR hL C  v4 0 s hb1 hx1
noncomputable def f_Mo_start_L267 (v4 : Int32) (s : St) : Option ((Int32 × St) ⊕ (Int32 × St)) :=
  if 4096 ≤ v4 then
  some (.inr (v4, s))
  else
  if v4 < 256 then
  f_Mo_start_J295_1 v4 s
  else
  if 512 ≤ v4 then
  f_Mo_start_J295_1 v4 s
  else
  f_Mo_start_J296_1 v4 1 s
set_option maxHeartbeats 4000000 in
set_option maxRecDepth 100000 in
theorem t_Mo_start_L267 (G : GG) (hR : gR G = rmx 1 20) (hL : gL G = 6) (C : Cx SM G cX12_start RX12) {Acc : ((Int32 × St) ⊕ (Int32 × St)) → Prop}  (v4 : Int32) (s : St) (hb1 : ∀ (a4 : Int32) (t : St), Acc (.inl (a4, t)) → KK SM G 267 [(0, .ref (ad G 0)), (4, .int a4)] [] t) (hx1 : ∀ (a4 : Int32) (t : St), Acc (.inr (a4, t)) → KK SM G 384 [(0, .ref (ad G 0)), (4, .int a4)] [] t) : JJ SM G Acc (f_Mo_start_L267 v4 s) 267 [(0, .ref (ad G 0)), (4, .int v4)] [] s := by
  unfold f_Mo_start_L267
  refine jr_iload C 1 rfl dX12_start_267 ?_
  refine jr_sipush C sp_4096 dX12_start_269 ?_
  refine jr_icmp_ge C (tgt := 384) dX12_start_272 (by decide) (fun h23 => ?_) (fun h23 => ?_)
  · refine jo_pos h23 ?_
    exact jr_end (fun h => hx1 v4 s h)
  refine jo_neg h23 ?_
  refine jr_iload C 1 rfl dX12_start_275 ?_
  refine jr_sipush C sp_256 dX12_start_277 ?_
  refine jr_icmp_lt C (tgt := 295) dX12_start_280 (by decide) (fun h24 => ?_) (fun h24 => ?_)
  · refine jo_pos h24 ?_
    exact t_Mo_start_J295_1 G hR hL C  v4 s hb1 hx1
  refine jo_neg h24 ?_
  refine jr_iload C 1 rfl dX12_start_283 ?_
  refine jr_sipush C sp_512 dX12_start_285 ?_
  refine jr_icmp_ge C (tgt := 295) dX12_start_288 (by decide) (fun h30 => ?_) (fun h30 => ?_)
  · refine jo_pos h30 ?_
    exact t_Mo_start_J295_1 G hR hL C  v4 s hb1 hx1
  refine jo_neg h30 ?_
  refine jr_iconst C ic_1 dX12_start_291 ?_
  refine jr_goto C (tgt := 296) dX12_start_292 (by decide) ?_
  exact t_Mo_start_J296_1 G hR hL C  v4 1 s hb1 hx1
noncomputable def f_Mo_start_J82 (w0 : Int32) (w1 : Int32) (s : St) : Option St :=
  gd w1 2 <|
  lt (uI s 21 (w1 : Int32).toNatClampNeg w0) fun s6 =>
  gd (s6.1 0 28) 2 <|
  lt (uI s6 22 ((s6.1 0 28) : Int32).toNatClampNeg 0) fun s7 =>
  gd (s7.1 0 28) 2 <|
  lt (uI s7 23 ((s7.1 0 28) : Int32).toNatClampNeg 7) fun s8 =>
  gd (s8.1 0 28) 2 <|
  lt (uI s8 26 ((s8.1 0 28) : Int32).toNatClampNeg 0) fun s9 =>
  gd (s9.1 0 28) 2 <|
  lt (uI s9 27 ((s9.1 0 28) : Int32).toNatClampNeg 0) fun s10 =>
  gd (s10.1 0 28) 2 <|
  lt (uI s10 34 ((s10.1 0 28) : Int32).toNatClampNeg 0) fun s11 =>
  gd (s11.1 0 28) 2 <|
  lt (uI s11 35 ((s11.1 0 28) : Int32).toNatClampNeg 0) fun s12 =>
  (wh (fun a : (Int32 × St) => f_Mo_start_L147 a.1 a.2) (0, s12)).bind (fun b19 =>
  gd ((8 * (b19.2.1 0 28)) + 7) 16 <|
  lt (uI (b19.2) 13 (((8 * (b19.2.1 0 28)) + 7) : Int32).toNatClampNeg 4096) fun s20 =>
  gd ((8 * (s20.1 0 28)) + 7) 16 <|
  lt (uI s20 14 (((8 * (s20.1 0 28)) + 7) : Int32).toNatClampNeg 0) fun s21 =>
  gd ((8 * (s21.1 0 28)) + 7) 16 <|
  lt (uI s21 15 (((8 * (s21.1 0 28)) + 7) : Int32).toNatClampNeg 0) fun s22 =>
  (wh (fun a : (Int32 × St) => f_Mo_start_L267 a.1 a.2) (0, s22)).bind (fun b31 =>
  some (b31.2)))
set_option maxHeartbeats 4000000 in
set_option maxRecDepth 100000 in
theorem t_Mo_start_J82 (G : GG) (hR : gR G = rmx 1 20) (hL : gL G = 6) (C : Cx SM G cX12_start RX12) {Acc : St → Prop}  (w0 : Int32) (w1 : Int32) (s : St) (hr : ∀ v : St, Acc v → RtV SM G cX12_start v) : JJ SM G Acc (f_Mo_start_J82 w0 w1 s) 82 [(0, .ref (ad G 0))] [.int w0, .int w1, .ref (ad G 21)] s := by
  unfold f_Mo_start_J82
  refine jr_iast C oS_21.1 oS_21.2.1 oS_21.2.2 dX12_start_82 (jr_ltS fun s6 => ?_)
  refine jr_aload_n C 0 rfl rfl dX12_start_83 ?_
  refine jr_getR C FX_10 39 oS_0.1 oS_0.2 ff_10_39.1 ff_10_39.2 rfl fl_X12_82 dX12_start_84 ?_
  refine jr_aload_n C 0 rfl rfl dX12_start_87 ?_
  refine jr_getI C FX_10 28 oS_0.1 oS_0.2 ff_10_28.1 ff_10_28.2 fl_X12_394 dX12_start_88 ?_
  refine jr_iconst C ic_0 dX12_start_91 ?_
  refine jr_iast C oS_22.1 oS_22.2.1 oS_22.2.2 dX12_start_92 (jr_ltS fun s7 => ?_)
  refine jr_aload_n C 0 rfl rfl dX12_start_93 ?_
  refine jr_getR C FX_10 40 oS_0.1 oS_0.2 ff_10_40.1 ff_10_40.2 rfl fl_X12_85 dX12_start_94 ?_
  refine jr_aload_n C 0 rfl rfl dX12_start_97 ?_
  refine jr_getI C FX_10 28 oS_0.1 oS_0.2 ff_10_28.1 ff_10_28.2 fl_X12_394 dX12_start_98 ?_
  refine jr_bipush C bp_7 dX12_start_101 ?_
  refine jr_iast C oS_23.1 oS_23.2.1 oS_23.2.2 dX12_start_103 (jr_ltS fun s8 => ?_)
  refine jr_aload_n C 0 rfl rfl dX12_start_104 ?_
  refine jr_getR C FX_10 43 oS_0.1 oS_0.2 ff_10_43.1 ff_10_43.2 rfl fl_X12_94 dX12_start_105 ?_
  refine jr_aload_n C 0 rfl rfl dX12_start_108 ?_
  refine jr_getI C FX_10 28 oS_0.1 oS_0.2 ff_10_28.1 ff_10_28.2 fl_X12_394 dX12_start_109 ?_
  refine jr_iconst C ic_0 dX12_start_112 ?_
  refine jr_iast C oS_26.1 oS_26.2.1 oS_26.2.2 dX12_start_113 (jr_ltS fun s9 => ?_)
  refine jr_aload_n C 0 rfl rfl dX12_start_114 ?_
  refine jr_getR C FX_10 44 oS_0.1 oS_0.2 ff_10_44.1 ff_10_44.2 rfl fl_X12_97 dX12_start_115 ?_
  refine jr_aload_n C 0 rfl rfl dX12_start_118 ?_
  refine jr_getI C FX_10 28 oS_0.1 oS_0.2 ff_10_28.1 ff_10_28.2 fl_X12_394 dX12_start_119 ?_
  refine jr_iconst C ic_0 dX12_start_122 ?_
  refine jr_iast C oS_27.1 oS_27.2.1 oS_27.2.2 dX12_start_123 (jr_ltS fun s10 => ?_)
  refine jr_aload_n C 0 rfl rfl dX12_start_124 ?_
  refine jr_getR C FX_10 51 oS_0.1 oS_0.2 ff_10_51.1 ff_10_51.2 rfl fl_X12_118 dX12_start_125 ?_
  refine jr_aload_n C 0 rfl rfl dX12_start_128 ?_
  refine jr_getI C FX_10 28 oS_0.1 oS_0.2 ff_10_28.1 ff_10_28.2 fl_X12_394 dX12_start_129 ?_
  refine jr_iconst C ic_0 dX12_start_132 ?_
  refine jr_iast C oS_34.1 oS_34.2.1 oS_34.2.2 dX12_start_133 (jr_ltS fun s11 => ?_)
  refine jr_aload_n C 0 rfl rfl dX12_start_134 ?_
  refine jr_getR C FX_10 52 oS_0.1 oS_0.2 ff_10_52.1 ff_10_52.2 rfl fl_X12_121 dX12_start_135 ?_
  refine jr_aload_n C 0 rfl rfl dX12_start_138 ?_
  refine jr_getI C FX_10 28 oS_0.1 oS_0.2 ff_10_28.1 ff_10_28.2 fl_X12_394 dX12_start_139 ?_
  refine jr_iconst C ic_0 dX12_start_142 ?_
  refine jr_iast C oS_35.1 oS_35.2.1 oS_35.2.2 dX12_start_143 (jr_ltS fun s12 => ?_)
  refine jr_iconst C ic_0 dX12_start_144 ?_
  refine jr_istore C (lv' := [(4, .int 0), (0, .ref (ad G 0))]) (ltL hL rfl) rfl dX12_start_145 ?_
  refine jr_lv [1, 0] rfl ?_
  refine jr_loopB (pc := 147) (pcx := 214) (f := fun a : (Int32 × St) => f_Mo_start_L147 a.1 a.2) (fun a : (Int32 × St) => [(0, .ref (ad G 0)), (4, .int (a.1))]) (fun a : (Int32 × St) => a.2) (0, s12) (fun a => t_Mo_start_L147 G hR hL C  a.1 a.2 (fun _ _ h => h) (fun _ _ h => h)) (fun b19 => ?_)
  refine jr_aload_n C 0 rfl rfl dX12_start_214 ?_
  refine jr_getR C FX_10 30 oS_0.1 oS_0.2 ff_10_30.1 ff_10_30.2 rfl fl_X12_55 dX12_start_215 ?_
  refine jr_bipush C bp_8 dX12_start_218 ?_
  refine jr_aload_n C 0 rfl rfl dX12_start_220 ?_
  refine jr_getI C FX_10 28 oS_0.1 oS_0.2 ff_10_28.1 ff_10_28.2 fl_X12_394 dX12_start_221 ?_
  refine jr_imul C dX12_start_224 ?_
  refine jr_bipush C bp_7 dX12_start_225 ?_
  refine jr_iadd C dX12_start_227 ?_
  refine jr_sipush C sp_4096 dX12_start_228 ?_
  refine jr_iast C oS_13.1 oS_13.2.1 oS_13.2.2 dX12_start_231 (jr_ltS fun s20 => ?_)
  refine jr_aload_n C 0 rfl rfl dX12_start_232 ?_
  refine jr_getR C FX_10 31 oS_0.1 oS_0.2 ff_10_31.1 ff_10_31.2 rfl fl_X12_58 dX12_start_233 ?_
  refine jr_bipush C bp_8 dX12_start_236 ?_
  refine jr_aload_n C 0 rfl rfl dX12_start_238 ?_
  refine jr_getI C FX_10 28 oS_0.1 oS_0.2 ff_10_28.1 ff_10_28.2 fl_X12_394 dX12_start_239 ?_
  refine jr_imul C dX12_start_242 ?_
  refine jr_bipush C bp_7 dX12_start_243 ?_
  refine jr_iadd C dX12_start_245 ?_
  refine jr_iconst C ic_0 dX12_start_246 ?_
  refine jr_iast C oS_14.1 oS_14.2.1 oS_14.2.2 dX12_start_247 (jr_ltS fun s21 => ?_)
  refine jr_aload_n C 0 rfl rfl dX12_start_248 ?_
  refine jr_getR C FX_10 32 oS_0.1 oS_0.2 ff_10_32.1 ff_10_32.2 rfl fl_X12_61 dX12_start_249 ?_
  refine jr_bipush C bp_8 dX12_start_252 ?_
  refine jr_aload_n C 0 rfl rfl dX12_start_254 ?_
  refine jr_getI C FX_10 28 oS_0.1 oS_0.2 ff_10_28.1 ff_10_28.2 fl_X12_394 dX12_start_255 ?_
  refine jr_imul C dX12_start_258 ?_
  refine jr_bipush C bp_7 dX12_start_259 ?_
  refine jr_iadd C dX12_start_261 ?_
  refine jr_iconst C ic_0 dX12_start_262 ?_
  refine jr_iast C oS_15.1 oS_15.2.1 oS_15.2.2 dX12_start_263 (jr_ltS fun s22 => ?_)
  refine jr_iconst C ic_0 dX12_start_264 ?_
  refine jr_istore C (lv' := [(4, .int 0), (0, .ref (ad G 0))]) (ltL hL rfl) rfl dX12_start_265 ?_
  refine jr_lv [1, 0] rfl ?_
  refine jr_loopB (pc := 267) (pcx := 384) (f := fun a : (Int32 × St) => f_Mo_start_L267 a.1 a.2) (fun a : (Int32 × St) => [(0, .ref (ad G 0)), (4, .int (a.1))]) (fun a : (Int32 × St) => a.2) (0, s22) (fun a => t_Mo_start_L267 G hR hL C  a.1 a.2 (fun _ _ h => h) (fun _ _ h => h)) (fun b31 => ?_)
  exact jr_end (fun h => hr (b31.2) h _ _ dX12_start_384)
noncomputable def f_Mo_start_J42 (v2 : Int32) (s : St) : Option St :=
  gd (s.1 0 28) 2 <|
  lt (uI s 24 ((s.1 0 28) : Int32).toNatClampNeg v2) fun s3 =>
  gd (s3.1 0 28) 2 <|
  lt (uI s3 20 ((s3.1 0 28) : Int32).toNatClampNeg 0) fun s4 =>
  if (s4.1 0 16) = 0 then
  f_Mo_start_J82 1 (s4.1 0 28) s4
  else
  f_Mo_start_J82 0 (s4.1 0 28) s4
set_option maxHeartbeats 4000000 in
set_option maxRecDepth 100000 in
theorem t_Mo_start_J42 (G : GG) (hR : gR G = rmx 1 20) (hL : gL G = 6) (C : Cx SM G cX12_start RX12) {Acc : St → Prop}  (v2 : Int32) (s : St) (hr : ∀ v : St, Acc v → RtV SM G cX12_start v) : JJ SM G Acc (f_Mo_start_J42 v2 s) 42 [(0, .ref (ad G 0)), (2, .int v2)] [] s := by
  unfold f_Mo_start_J42
  refine jr_aload_n C 0 rfl rfl dX12_start_42 ?_
  refine jr_getR C FX_10 41 oS_0.1 oS_0.2 ff_10_41.1 ff_10_41.2 rfl fl_X12_88 dX12_start_43 ?_
  refine jr_aload_n C 0 rfl rfl dX12_start_46 ?_
  refine jr_getI C FX_10 28 oS_0.1 oS_0.2 ff_10_28.1 ff_10_28.2 fl_X12_394 dX12_start_47 ?_
  refine jr_iload_n C 1 rfl rfl dX12_start_50 ?_
  refine jr_iast C oS_24.1 oS_24.2.1 oS_24.2.2 dX12_start_51 (jr_ltS fun s3 => ?_)
  refine jr_aload_n C 0 rfl rfl dX12_start_52 ?_
  refine jr_getR C FX_10 37 oS_0.1 oS_0.2 ff_10_37.1 ff_10_37.2 rfl fl_X12_76 dX12_start_53 ?_
  refine jr_aload_n C 0 rfl rfl dX12_start_56 ?_
  refine jr_getI C FX_10 28 oS_0.1 oS_0.2 ff_10_28.1 ff_10_28.2 fl_X12_394 dX12_start_57 ?_
  refine jr_iconst C ic_0 dX12_start_60 ?_
  refine jr_iast C oS_20.1 oS_20.2.1 oS_20.2.2 dX12_start_61 (jr_ltS fun s4 => ?_)
  refine jr_aload_n C 0 rfl rfl dX12_start_62 ?_
  refine jr_getR C FX_10 38 oS_0.1 oS_0.2 ff_10_38.1 ff_10_38.2 rfl fl_X12_79 dX12_start_63 ?_
  refine jr_aload_n C 0 rfl rfl dX12_start_66 ?_
  refine jr_getI C FX_10 28 oS_0.1 oS_0.2 ff_10_28.1 ff_10_28.2 fl_X12_394 dX12_start_67 ?_
  refine jr_aload_n C 0 rfl rfl dX12_start_70 ?_
  refine jr_getI C FX_10 16 oS_0.1 oS_0.2 ff_10_16.1 ff_10_16.2 fl_X12_377 dX12_start_71 ?_
  refine jr_if_ne C (tgt := 81) dX12_start_74 (by decide) (fun h5 => ?_) (fun h5 => ?_)
  · refine jo_neg h5 ?_
    refine jr_iconst C ic_0 dX12_start_81 ?_
    refine jr_lv [0] rfl ?_
    exact t_Mo_start_J82 G hR hL C  0 (s4.1 0 28) s4 hr
  refine jo_pos h5 ?_
  refine jr_iconst C ic_1 dX12_start_77 ?_
  refine jr_goto C (tgt := 82) dX12_start_78 (by decide) ?_
  refine jr_lv [0] rfl ?_
  exact t_Mo_start_J82 G hR hL C  1 (s4.1 0 28) s4 hr
noncomputable def f_Mo_start (v1 : Int32) (v2 : Int32) (v3 : Int32) (s : St) : Option St :=
  lt (uI s 0 28 v1) fun s1 =>
  if (s1.1 0 28) = 0 then
  (lt (uI s1 0 29 v3) fun s32 =>
  lt (uI s32 0 61 0) fun s33 =>
  lt (uI s33 0 62 0) fun s34 =>
  lt (uI s34 0 63 0) fun s35 =>
  lt (uI s35 0 56 0) fun s36 =>
  lt (uI s36 0 64 1) fun s37 =>
  f_Mo_start_J42 v2 s37)
  else
  f_Mo_start_J42 v2 s1
set_option maxHeartbeats 4000000 in
set_option maxRecDepth 100000 in
theorem t_Mo_start (G : GG) (hR : gR G = rmx 1 20) (hL : gL G = 6) (C : Cx SM G cX12_start RX12) {Acc : St → Prop}  (v1 : Int32) (v2 : Int32) (v3 : Int32) (s : St) (hr : ∀ v : St, Acc v → RtV SM G cX12_start v) : JJ SM G Acc (f_Mo_start v1 v2 v3 s) 0 [(0, .ref (ad G 0)), (1, .int v1), (2, .int v2), (3, .int v3)] [] s := by
  unfold f_Mo_start
  refine jr_aload_n C 0 rfl rfl dX12_start_0 ?_
  refine jr_iload_n C 1 rfl rfl dX12_start_1 ?_
  refine jr_putI C FX_10 28 oS_0.1 oS_0.2 ff_10_28.1 ff_10_28.2 rfl rfl fl_X12_394 dX12_start_2 (jr_ltS fun s1 => ?_)
  refine jr_aload_n C 0 rfl rfl dX12_start_5 ?_
  refine jr_getI C FX_10 28 oS_0.1 oS_0.2 ff_10_28.1 ff_10_28.2 fl_X12_394 dX12_start_6 ?_
  refine jr_if_ne C (tgt := 42) dX12_start_9 (by decide) (fun h2 => ?_) (fun h2 => ?_)
  · refine jo_neg h2 ?_
    refine jr_lv [0, 2] rfl ?_
    exact t_Mo_start_J42 G hR hL C  v2 s1 hr
  refine jo_pos h2 ?_
  refine jr_aload_n C 0 rfl rfl dX12_start_12 ?_
  refine jr_iload_n C 3 rfl rfl dX12_start_13 ?_
  refine jr_putI C FX_10 29 oS_0.1 oS_0.2 ff_10_29.1 ff_10_29.2 rfl rfl fl_X12_397 dX12_start_14 (jr_ltS fun s32 => ?_)
  refine jr_aload_n C 0 rfl rfl dX12_start_17 ?_
  refine jr_iconst C ic_0 dX12_start_18 ?_
  refine jr_putI C FX_10 61 oS_0.1 oS_0.2 ff_10_61.1 ff_10_61.2 rfl rfl fl_X12_400 dX12_start_19 (jr_ltS fun s33 => ?_)
  refine jr_aload_n C 0 rfl rfl dX12_start_22 ?_
  refine jr_iconst C ic_0 dX12_start_23 ?_
  refine jr_putI C FX_10 62 oS_0.1 oS_0.2 ff_10_62.1 ff_10_62.2 rfl rfl fl_X12_403 dX12_start_24 (jr_ltS fun s34 => ?_)
  refine jr_aload_n C 0 rfl rfl dX12_start_27 ?_
  refine jr_iconst C ic_0 dX12_start_28 ?_
  refine jr_putI C FX_10 63 oS_0.1 oS_0.2 ff_10_63.1 ff_10_63.2 rfl rfl fl_X12_406 dX12_start_29 (jr_ltS fun s35 => ?_)
  refine jr_aload_n C 0 rfl rfl dX12_start_32 ?_
  refine jr_iconst C ic_0 dX12_start_33 ?_
  refine jr_putI C FX_10 56 oS_0.1 oS_0.2 ff_10_56.1 ff_10_56.2 rfl rfl fl_X12_409 dX12_start_34 (jr_ltS fun s36 => ?_)
  refine jr_aload_n C 0 rfl rfl dX12_start_37 ?_
  refine jr_iconst C ic_1 dX12_start_38 ?_
  refine jr_putZ C FX_10 64 oS_0.1 oS_0.2 ff_10_64.1 ff_10_64.2 rfl rfl (Or.inr rfl) fl_X12_412 dX12_start_39 (jr_ltS fun s37 => ?_)
  refine jr_lv [0, 2] rfl ?_
  exact t_Mo_start_J42 G hR hL C  v2 s37 hr
set_option maxRecDepth 100000 in
theorem c_Mo_start (l : Launch)  (v1 : Int32) (v2 : Int32) (v3 : Int32) (s : St) {q : St} (h : f_Mo_start v1 v2 v3 s = some q) : CT SM l yX12_start cX12_start 6 none 1 20 (fun a => [.ref (a 0), .int v1, .int v2, .int v3]) s q (fun _ => none) :=
  ct_V okX_M (by decide) (fun _ => Nat.le_of_ble_eq_true rfl) (fun G hl hR hL C hr => t_Mo_start G hR hL C (Acc := fun v => v = q)  v1 v2 v3 s (fun v hv => by rw [hv]; exact hr) ⟨_, h, rfl⟩)
noncomputable def f_Mo_assemble_L96 (v2 : Int32) (s : St) : Option ((Int32 × St) ⊕ (Int32 × St)) :=
  if (s.1 0 3) ≤ v2 then
  some (.inr (v2, s))
  else
  gd v2 4000 <|
  gd v2 3000 <|
  lt (uI s 2 (v2 : Int32).toNatClampNeg (vp_nar .byte (s.1 1 (v2 : Int32).toNatClampNeg))) fun s10 =>
  some (.inl ((v2 + 1), s10))
set_option maxHeartbeats 4000000 in
set_option maxRecDepth 100000 in
theorem t_Mo_assemble_L96 (G : GG) (hR : gR G = rmx 6 136) (hL : gL G = 4) (C : Cx SM G cX12_assemble RX12) {Acc : ((Int32 × St) ⊕ (Int32 × St)) → Prop}  (v2 : Int32) (s : St) (hb1 : ∀ (a2 : Int32) (t : St), Acc (.inl (a2, t)) → KK SM G 96 [(0, .ref (ad G 0)), (2, .int a2)] [] t) (hx1 : ∀ (a2 : Int32) (t : St), Acc (.inr (a2, t)) → KK SM G 122 [(0, .ref (ad G 0)), (2, .int a2)] [] t) : JJ SM G Acc (f_Mo_assemble_L96 v2 s) 96 [(0, .ref (ad G 0)), (2, .int v2)] [] s := by
  unfold f_Mo_assemble_L96
  refine jr_iload_n C 1 rfl rfl dX12_assemble_96 ?_
  refine jr_aload_n C 0 rfl rfl dX12_assemble_97 ?_
  refine jr_getI C FX_10 3 oS_0.1 oS_0.2 ff_10_3.1 ff_10_3.2 fl_X12_269 dX12_assemble_98 ?_
  refine jr_icmp_ge C (tgt := 122) dX12_assemble_101 (by decide) (fun h9 => ?_) (fun h9 => ?_)
  · refine jo_pos h9 ?_
    exact jr_end (fun h => hx1 v2 s h)
  refine jo_neg h9 ?_
  refine jr_aload_n C 0 rfl rfl dX12_assemble_104 ?_
  refine jr_getR C FX_10 2 oS_0.1 oS_0.2 ff_10_2.1 ff_10_2.2 rfl fl_X12_13 dX12_assemble_105 ?_
  refine jr_iload_n C 1 rfl rfl dX12_assemble_108 ?_
  refine jr_aload_n C 0 rfl rfl dX12_assemble_109 ?_
  refine jr_getR C FX_10 0 oS_0.1 oS_0.2 ff_10_0.1 ff_10_0.2 rfl fl_X12_7 dX12_assemble_110 ?_
  refine jr_iload_n C 1 rfl rfl dX12_assemble_113 ?_
  refine jr_bald C oS_1.1 oS_1.2.1 oS_1.2.2 dX12_assemble_114 ?_
  refine jr_bast C oS_2.1 oS_2.2.1 oS_2.2.2 dX12_assemble_115 (jr_ltS fun s10 => ?_)
  refine jr_iinc C 1 rfl ii_1 (lv' := [(2, .int (v2 + 1)), (0, .ref (ad G 0))]) (ltL hL rfl) rfl dX12_assemble_116 ?_
  refine jr_goto C (tgt := 96) dX12_assemble_119 (by decide) ?_
  refine jr_lv [1, 0] rfl ?_
  exact jr_end (fun h => hb1 (v2 + 1) s10 h)
noncomputable def f_Mo_assemble_J206_1 (w0 : Int32) (w1 : Int32) (s : St) : Option (St ⊕ St) :=
  lt (uI s 0 23 (w1 + w0)) fun s24 =>
  some (.inl s24)
set_option maxHeartbeats 4000000 in
set_option maxRecDepth 100000 in
theorem t_Mo_assemble_J206_1 (G : GG) (hR : gR G = rmx 6 136) (hL : gL G = 4) (C : Cx SM G cX12_assemble RX12) {Acc : (St ⊕ St) → Prop}  (w0 : Int32) (w1 : Int32) (s : St) (hb1 : ∀  (t : St), Acc (.inl t) → KK SM G 157 [(0, .ref (ad G 0))] [] t) (hx1 : ∀  (t : St), Acc (.inr t) → KK SM G 213 [(0, .ref (ad G 0))] [] t) : JJ SM G Acc (f_Mo_assemble_J206_1 w0 w1 s) 206 [(0, .ref (ad G 0))] [.int w0, .int w1, .ref (ad G 0)] s := by
  unfold f_Mo_assemble_J206_1
  refine jr_iadd C dX12_assemble_206 ?_
  refine jr_putI C FX_10 23 oS_0.1 oS_0.2 ff_10_23.1 ff_10_23.2 rfl rfl fl_X12_275 dX12_assemble_207 (jr_ltS fun s24 => ?_)
  refine jr_goto C (tgt := 157) dX12_assemble_210 (by decide) ?_
  exact jr_end (fun h => hb1 s24 h)
noncomputable def f_Mo_assemble_L157  (s : St) : Option (St ⊕ St) :=
  if (s.1 0 3) ≤ (s.1 0 26) then
  some (.inr s)
  else
  if (s.1 0 20) = 0 then
  ((f_Mo_readLine s).bind fun q20 =>
  lt (uI q20 0 26 ((q20.1 0 26) + 1)) fun s22 =>
  if (s22.1 0 20) = 0 then
  f_Mo_assemble_J206_1 1 (s22.1 0 23) s22
  else
  f_Mo_assemble_J206_1 0 (s22.1 0 23) s22)
  else
  some (.inr s)
set_option maxHeartbeats 4000000 in
set_option maxRecDepth 100000 in
theorem t_Mo_assemble_L157 (G : GG) (hR : gR G = rmx 6 136) (hL : gL G = 4) (C : Cx SM G cX12_assemble RX12) {Acc : (St ⊕ St) → Prop}   (s : St) (hb1 : ∀  (t : St), Acc (.inl t) → KK SM G 157 [(0, .ref (ad G 0))] [] t) (hx1 : ∀  (t : St), Acc (.inr t) → KK SM G 213 [(0, .ref (ad G 0))] [] t) : JJ SM G Acc (f_Mo_assemble_L157 s) 157 [(0, .ref (ad G 0))] [] s := by
  unfold f_Mo_assemble_L157
  refine jr_aload_n C 0 rfl rfl dX12_assemble_157 ?_
  refine jr_getI C FX_10 26 oS_0.1 oS_0.2 ff_10_26.1 ff_10_26.2 fl_X12_285 dX12_assemble_158 ?_
  refine jr_aload_n C 0 rfl rfl dX12_assemble_161 ?_
  refine jr_getI C FX_10 3 oS_0.1 oS_0.2 ff_10_3.1 ff_10_3.2 fl_X12_269 dX12_assemble_162 ?_
  refine jr_icmp_ge C (tgt := 213) dX12_assemble_165 (by decide) (fun h18 => ?_) (fun h18 => ?_)
  · refine jo_pos h18 ?_
    exact jr_end (fun h => hx1 s h)
  refine jo_neg h18 ?_
  refine jr_aload_n C 0 rfl rfl dX12_assemble_168 ?_
  refine jr_getI C FX_10 20 oS_0.1 oS_0.2 ff_10_20.1 ff_10_20.2 fl_X12_272 dX12_assemble_169 ?_
  refine jr_if_ne C (tgt := 213) dX12_assemble_172 (by decide) (fun h19 => ?_) (fun h19 => ?_)
  · refine jo_neg h19 ?_
    exact jr_end (fun h => hx1 s h)
  refine jo_pos h19 ?_
  refine jr_aload_n C 0 rfl rfl dX12_assemble_175 ?_
  refine jr_bind (fun q20 e21 => ?_)
  refine jr_callVV C FX_10 km_X12_374 oS_0.1 oS_0.2 (rk hR rfl) (c_Mo_readLine (gl G) s e21) rfl rfl rfl (Nat.le_of_ble_eq_true rfl) dX12_assemble_176 ?_
  refine jr_aload_n C 0 rfl rfl dX12_assemble_179 ?_
  refine jr_dup C rfl dX12_assemble_180 ?_
  refine jr_getI C FX_10 26 oS_0.1 oS_0.2 ff_10_26.1 ff_10_26.2 fl_X12_285 dX12_assemble_181 ?_
  refine jr_iconst C ic_1 dX12_assemble_184 ?_
  refine jr_iadd C dX12_assemble_185 ?_
  refine jr_putI C FX_10 26 oS_0.1 oS_0.2 ff_10_26.1 ff_10_26.2 rfl rfl fl_X12_285 dX12_assemble_186 (jr_ltS fun s22 => ?_)
  refine jr_aload_n C 0 rfl rfl dX12_assemble_189 ?_
  refine jr_dup C rfl dX12_assemble_190 ?_
  refine jr_getI C FX_10 23 oS_0.1 oS_0.2 ff_10_23.1 ff_10_23.2 fl_X12_275 dX12_assemble_191 ?_
  refine jr_aload_n C 0 rfl rfl dX12_assemble_194 ?_
  refine jr_getI C FX_10 20 oS_0.1 oS_0.2 ff_10_20.1 ff_10_20.2 fl_X12_272 dX12_assemble_195 ?_
  refine jr_if_ne C (tgt := 205) dX12_assemble_198 (by decide) (fun h23 => ?_) (fun h23 => ?_)
  · refine jo_neg h23 ?_
    refine jr_iconst C ic_0 dX12_assemble_205 ?_
    exact t_Mo_assemble_J206_1 G hR hL C  0 (s22.1 0 23) s22 hb1 hx1
  refine jo_pos h23 ?_
  refine jr_iconst C ic_1 dX12_assemble_201 ?_
  refine jr_goto C (tgt := 206) dX12_assemble_202 (by decide) ?_
  exact t_Mo_assemble_J206_1 G hR hL C  1 (s22.1 0 23) s22 hb1 hx1
noncomputable def f_Mo_assemble_J293_1 (v2 : Int32) (s : St) : Option ((Int32 × St) ⊕ (Int32 × St)) :=
  some (.inl ((v2 + 1), s))
set_option maxHeartbeats 4000000 in
set_option maxRecDepth 100000 in
theorem t_Mo_assemble_J293_1 (G : GG) (hR : gR G = rmx 6 136) (hL : gL G = 4) (C : Cx SM G cX12_assemble RX12) {Acc : ((Int32 × St) ⊕ (Int32 × St)) → Prop}  (v2 : Int32) (s : St) (hb1 : ∀ (a2 : Int32) (t : St), Acc (.inl (a2, t)) → KK SM G 215 [(0, .ref (ad G 0)), (2, .int a2)] [] t) (hx1 : ∀ (a2 : Int32) (t : St), Acc (.inr (a2, t)) → KK SM G 299 [(0, .ref (ad G 0)), (2, .int a2)] [] t) : JJ SM G Acc (f_Mo_assemble_J293_1 v2 s) 293 [(0, .ref (ad G 0)), (2, .int v2)] [] s := by
  unfold f_Mo_assemble_J293_1
  refine jr_iinc C 1 rfl ii_1 (lv' := [(2, .int (v2 + 1)), (0, .ref (ad G 0))]) (ltL hL rfl) rfl dX12_assemble_293 ?_
  refine jr_goto C (tgt := 215) dX12_assemble_296 (by decide) ?_
  refine jr_lv [1, 0] rfl ?_
  exact jr_end (fun h => hb1 (v2 + 1) s h)
noncomputable def f_Mo_assemble_L215 (v2 : Int32) (s : St) : Option ((Int32 × St) ⊕ (Int32 × St)) :=
  if (s.1 0 18) ≤ v2 then
  some (.inr (v2, s))
  else
  if (s.1 0 20) = 0 then
  (gd v2 201 <|
  gd v2 201 <|
  (f_Mo_labelOf (s.1 9 (v2 : Int32).toNatClampNeg) (s.1 10 (v2 : Int32).toNatClampNeg) s).bind fun q28 =>
  gd v2 201 <|
  lt (uI s 0 23 (s.1 11 (v2 : Int32).toNatClampNeg)) fun s30 =>
  if 0 ≤ q28 then
  (gd v2 201 <|
  gd q28 201 <|
  gd (s30.1 12 (v2 : Int32).toNatClampNeg) 1200 <|
  lt (uI s30 5 ((s30.1 12 (v2 : Int32).toNatClampNeg) : Int32).toNatClampNeg (s30.1 8 (q28 : Int32).toNatClampNeg)) fun s32 =>
  f_Mo_assemble_J293_1 v2 s32)
  else
  gd v2 201 <|
  (f_Mo_fails 4 (s30.1 9 (v2 : Int32).toNatClampNeg) s30).bind fun q33 =>
  f_Mo_assemble_J293_1 v2 (q33.2))
  else
  some (.inr (v2, s))
set_option maxHeartbeats 4000000 in
set_option maxRecDepth 100000 in
theorem t_Mo_assemble_L215 (G : GG) (hR : gR G = rmx 6 136) (hL : gL G = 4) (C : Cx SM G cX12_assemble RX12) {Acc : ((Int32 × St) ⊕ (Int32 × St)) → Prop}  (v2 : Int32) (s : St) (hb1 : ∀ (a2 : Int32) (t : St), Acc (.inl (a2, t)) → KK SM G 215 [(0, .ref (ad G 0)), (2, .int a2)] [] t) (hx1 : ∀ (a2 : Int32) (t : St), Acc (.inr (a2, t)) → KK SM G 299 [(0, .ref (ad G 0)), (2, .int a2)] [] t) : JJ SM G Acc (f_Mo_assemble_L215 v2 s) 215 [(0, .ref (ad G 0)), (2, .int v2)] [] s := by
  unfold f_Mo_assemble_L215
  refine jr_iload_n C 1 rfl rfl dX12_assemble_215 ?_
  refine jr_aload_n C 0 rfl rfl dX12_assemble_216 ?_
  refine jr_getI C FX_10 18 oS_0.1 oS_0.2 ff_10_18.1 ff_10_18.2 fl_X12_365 dX12_assemble_217 ?_
  refine jr_icmp_ge C (tgt := 299) dX12_assemble_220 (by decide) (fun h26 => ?_) (fun h26 => ?_)
  · refine jo_pos h26 ?_
    exact jr_end (fun h => hx1 v2 s h)
  refine jo_neg h26 ?_
  refine jr_aload_n C 0 rfl rfl dX12_assemble_223 ?_
  refine jr_getI C FX_10 20 oS_0.1 oS_0.2 ff_10_20.1 ff_10_20.2 fl_X12_272 dX12_assemble_224 ?_
  refine jr_if_ne C (tgt := 299) dX12_assemble_227 (by decide) (fun h27 => ?_) (fun h27 => ?_)
  · refine jo_neg h27 ?_
    exact jr_end (fun h => hx1 v2 s h)
  refine jo_pos h27 ?_
  refine jr_aload_n C 0 rfl rfl dX12_assemble_230 ?_
  refine jr_aload_n C 0 rfl rfl dX12_assemble_231 ?_
  refine jr_getR C FX_10 10 oS_0.1 oS_0.2 ff_10_10.1 ff_10_10.2 rfl fl_X12_36 dX12_assemble_232 ?_
  refine jr_iload_n C 1 rfl rfl dX12_assemble_235 ?_
  refine jr_iald C oS_9.1 oS_9.2.1 oS_9.2.2 dX12_assemble_236 ?_
  refine jr_aload_n C 0 rfl rfl dX12_assemble_237 ?_
  refine jr_getR C FX_10 11 oS_0.1 oS_0.2 ff_10_11.1 ff_10_11.2 rfl fl_X12_39 dX12_assemble_238 ?_
  refine jr_iload_n C 1 rfl rfl dX12_assemble_241 ?_
  refine jr_iald C oS_10.1 oS_10.2.1 oS_10.2.2 dX12_assemble_242 ?_
  refine jr_bind (fun q28 e29 => ?_)
  refine jr_callVI C FX_10 km_X12_344 oS_0.1 oS_0.2 (rk hR rfl) (c_Mo_labelOf (gl G) (s.1 9 (v2 : Int32).toNatClampNeg) (s.1 10 (v2 : Int32).toNatClampNeg) s e29) rfl rfl rfl (Nat.le_of_ble_eq_true rfl) dX12_assemble_243 ?_
  refine jr_istore_n C (lv' := [(3, .int q28), (0, .ref (ad G 0)), (2, .int v2)]) (ltL hL rfl) rfl rfl dX12_assemble_246 ?_
  refine jr_aload_n C 1 rfl rfl dX12_assemble_247 ?_
  refine jr_aload_n C 1 rfl rfl dX12_assemble_248 ?_
  refine jr_getR C FX_10 12 oS_0.1 oS_0.2 ff_10_12.1 ff_10_12.2 rfl fl_X12_42 dX12_assemble_249 ?_
  refine jr_iload_n C 2 rfl rfl dX12_assemble_252 ?_
  refine jr_iald C oS_11.1 oS_11.2.1 oS_11.2.2 dX12_assemble_253 ?_
  refine jr_putI C FX_10 23 oS_0.1 oS_0.2 ff_10_23.1 ff_10_23.2 rfl rfl fl_X12_275 dX12_assemble_254 (jr_ltS fun s30 => ?_)
  refine jr_iload_n C 0 rfl rfl dX12_assemble_257 ?_
  refine jr_if_ge C (tgt := 276) dX12_assemble_258 (by decide) (fun h31 => ?_) (fun h31 => ?_)
  · refine jo_pos h31 ?_
    refine jr_aload_n C 1 rfl rfl dX12_assemble_276 ?_
    refine jr_getR C FX_10 6 oS_0.1 oS_0.2 ff_10_6.1 ff_10_6.2 rfl fl_X12_24 dX12_assemble_277 ?_
    refine jr_aload_n C 1 rfl rfl dX12_assemble_280 ?_
    refine jr_getR C FX_10 13 oS_0.1 oS_0.2 ff_10_13.1 ff_10_13.2 rfl fl_X12_45 dX12_assemble_281 ?_
    refine jr_iload_n C 2 rfl rfl dX12_assemble_284 ?_
    refine jr_iald C oS_12.1 oS_12.2.1 oS_12.2.2 dX12_assemble_285 ?_
    refine jr_aload_n C 1 rfl rfl dX12_assemble_286 ?_
    refine jr_getR C FX_10 9 oS_0.1 oS_0.2 ff_10_9.1 ff_10_9.2 rfl fl_X12_33 dX12_assemble_287 ?_
    refine jr_iload_n C 0 rfl rfl dX12_assemble_290 ?_
    refine jr_iald C oS_8.1 oS_8.2.1 oS_8.2.2 dX12_assemble_291 ?_
    refine jr_iast C oS_5.1 oS_5.2.1 oS_5.2.2 dX12_assemble_292 (jr_ltS fun s32 => ?_)
    refine jr_lv [1, 2] rfl ?_
    exact t_Mo_assemble_J293_1 G hR hL C  v2 s32 hb1 hx1
  refine jo_neg h31 ?_
  refine jr_aload_n C 1 rfl rfl dX12_assemble_261 ?_
  refine jr_iconst C ic_4 dX12_assemble_262 ?_
  refine jr_aload_n C 1 rfl rfl dX12_assemble_263 ?_
  refine jr_getR C FX_10 10 oS_0.1 oS_0.2 ff_10_10.1 ff_10_10.2 rfl fl_X12_36 dX12_assemble_264 ?_
  refine jr_iload_n C 2 rfl rfl dX12_assemble_267 ?_
  refine jr_iald C oS_9.1 oS_9.2.1 oS_9.2.2 dX12_assemble_268 ?_
  refine jr_bind (fun q33 e34 => ?_)
  refine jr_callVI C FX_10 km_X12_316 oS_0.1 oS_0.2 (rk hR rfl) (c_Mo_fails (gl G) 4 (s30.1 9 (v2 : Int32).toNatClampNeg) s30 e34) rfl rfl rfl (Nat.le_of_ble_eq_true rfl) dX12_assemble_269 ?_
  refine jr_pop C rfl dX12_assemble_272 ?_
  refine jr_goto C (tgt := 293) dX12_assemble_273 (by decide) ?_
  refine jr_lv [1, 2] rfl ?_
  exact t_Mo_assemble_J293_1 G hR hL C  v2 (q33.2) hb1 hx1
noncomputable def f_Mo_assemble_J57_1 (v1 : Int32) (v2 : Int32) (w0 : Int32) (w1 : Int32) (s : St) : Option ((Int32 × St) ⊕ (Int32 × St)) :=
  lt (uI s 0 23 (w1 + w0)) fun s47 =>
  some (.inl ((v2 + 1), s47))
set_option maxHeartbeats 4000000 in
set_option maxRecDepth 100000 in
theorem t_Mo_assemble_J57_1 (G : GG) (hR : gR G = rmx 6 136) (hL : gL G = 4) (C : Cx SM G cX12_assemble RX12) {Acc : ((Int32 × St) ⊕ (Int32 × St)) → Prop}  (v1 : Int32) (v2 : Int32) (w0 : Int32) (w1 : Int32) (s : St) (hb1 : ∀ (a2 : Int32) (t : St), Acc (.inl (a2, t)) → KK SM G 31 [(0, .ref (ad G 0)), (1, .int v1), (2, .int a2)] [] t) (hx1 : ∀ (a2 : Int32) (t : St), Acc (.inr (a2, t)) → KK SM G 67 [(0, .ref (ad G 0)), (1, .int v1), (2, .int a2)] [] t) : JJ SM G Acc (f_Mo_assemble_J57_1 v1 v2 w0 w1 s) 57 [(0, .ref (ad G 0)), (1, .int v1), (2, .int v2)] [.int w0, .int w1, .ref (ad G 0)] s := by
  unfold f_Mo_assemble_J57_1
  refine jr_iadd C dX12_assemble_57 ?_
  refine jr_putI C FX_10 23 oS_0.1 oS_0.2 ff_10_23.1 ff_10_23.2 rfl rfl fl_X12_275 dX12_assemble_58 (jr_ltS fun s47 => ?_)
  refine jr_iinc C 2 rfl ii_1 (lv' := [(2, .int (v2 + 1)), (0, .ref (ad G 0)), (1, .int v1)]) (ltL hL rfl) rfl dX12_assemble_61 ?_
  refine jr_goto C (tgt := 31) dX12_assemble_64 (by decide) ?_
  refine jr_lv [1, 2, 0] rfl ?_
  exact jr_end (fun h => hb1 (v2 + 1) s47 h)
noncomputable def f_Mo_assemble_L31 (v1 : Int32) (v2 : Int32) (s : St) : Option ((Int32 × St) ⊕ (Int32 × St)) :=
  if v1 ≤ v2 then
  some (.inr (v2, s))
  else
  gd v2 4000 <|
  if (s.1 1 (v2 : Int32).toNatClampNeg) = 10 then
  f_Mo_assemble_J57_1 v1 v2 1 (s.1 0 23) s
  else
  f_Mo_assemble_J57_1 v1 v2 0 (s.1 0 23) s
set_option maxHeartbeats 4000000 in
set_option maxRecDepth 100000 in
theorem t_Mo_assemble_L31 (G : GG) (hR : gR G = rmx 6 136) (hL : gL G = 4) (C : Cx SM G cX12_assemble RX12) {Acc : ((Int32 × St) ⊕ (Int32 × St)) → Prop}  (v1 : Int32) (v2 : Int32) (s : St) (hb1 : ∀ (a2 : Int32) (t : St), Acc (.inl (a2, t)) → KK SM G 31 [(0, .ref (ad G 0)), (1, .int v1), (2, .int a2)] [] t) (hx1 : ∀ (a2 : Int32) (t : St), Acc (.inr (a2, t)) → KK SM G 67 [(0, .ref (ad G 0)), (1, .int v1), (2, .int a2)] [] t) : JJ SM G Acc (f_Mo_assemble_L31 v1 v2 s) 31 [(0, .ref (ad G 0)), (1, .int v1), (2, .int v2)] [] s := by
  unfold f_Mo_assemble_L31
  refine jr_iload_n C 2 rfl rfl dX12_assemble_31 ?_
  refine jr_iload_n C 1 rfl rfl dX12_assemble_32 ?_
  refine jr_icmp_ge C (tgt := 67) dX12_assemble_33 (by decide) (fun h45 => ?_) (fun h45 => ?_)
  · refine jo_pos h45 ?_
    exact jr_end (fun h => hx1 v2 s h)
  refine jo_neg h45 ?_
  refine jr_aload_n C 0 rfl rfl dX12_assemble_36 ?_
  refine jr_dup C rfl dX12_assemble_37 ?_
  refine jr_getI C FX_10 23 oS_0.1 oS_0.2 ff_10_23.1 ff_10_23.2 fl_X12_275 dX12_assemble_38 ?_
  refine jr_aload_n C 0 rfl rfl dX12_assemble_41 ?_
  refine jr_getR C FX_10 0 oS_0.1 oS_0.2 ff_10_0.1 ff_10_0.2 rfl fl_X12_7 dX12_assemble_42 ?_
  refine jr_iload_n C 2 rfl rfl dX12_assemble_45 ?_
  refine jr_bald C oS_1.1 oS_1.2.1 oS_1.2.2 dX12_assemble_46 ?_
  refine jr_bipush C bp_10 dX12_assemble_47 ?_
  refine jr_icmp_ne C (tgt := 56) dX12_assemble_49 (by decide) (fun h46 => ?_) (fun h46 => ?_)
  · refine jo_neg h46 ?_
    refine jr_iconst C ic_0 dX12_assemble_56 ?_
    exact t_Mo_assemble_J57_1 G hR hL C  v1 v2 0 (s.1 0 23) s hb1 hx1
  refine jo_pos h46 ?_
  refine jr_iconst C ic_1 dX12_assemble_52 ?_
  refine jr_goto C (tgt := 57) dX12_assemble_53 (by decide) ?_
  exact t_Mo_assemble_J57_1 G hR hL C  v1 v2 1 (s.1 0 23) s hb1 hx1
noncomputable def f_Mo_assemble  (s : St) : Option (Int32 × St) :=
  lt (uI s 0 20 0) fun s1 =>
  lt (uI s1 0 21 (-1)) fun s2 =>
  lt (uI s2 0 22 (-1)) fun s3 =>
  (f_Mo_tooMuch s3).bind fun q4 =>
  if q4 < 0 then
  (lt (uI s3 0 3 (s3.1 0 1)) fun s7 =>
  lt (uI s7 0 1 0) fun s8 =>
  (wh (fun a : (Int32 × St) => f_Mo_assemble_L96 a.1 a.2) (0, s8)).bind (fun b11 =>
  lt (uI (b11.2) 0 14 (1 - (b11.2.1 0 14))) fun s12 =>
  lt (uI s12 0 15 0) fun s13 =>
  lt (uI s13 0 17 0) fun s14 =>
  lt (uI s14 0 18 0) fun s15 =>
  lt (uI s15 0 26 0) fun s16 =>
  lt (uI s16 0 23 1) fun s17 =>
  (wh (fun a : St => f_Mo_assemble_L157  a) s17).bind (fun b25 =>
  (wh (fun a : (Int32 × St) => f_Mo_assemble_L215 a.1 a.2) (0, b25)).bind (fun b35 =>
  if (b35.2.1 0 20) ≤ 0 then
  (lt (uI (b35.2) 0 16 (b35.2.1 0 15)) fun s37 =>
  lt (uI s37 0 19 1) fun s38 =>
  lt (uI s38 0 55 0) fun s39 =>
  lt (uI s39 0 68 0) fun s40 =>
  (f_Mo_start 0 0 0 s40).bind fun q41 =>
  some ((q41.1 0 16), q41))
  else
  lt (uI (b35.2) 0 14 (1 - (b35.2.1 0 14))) fun s43 =>
  some ((-1), s43)))))
  else
  lt (uI s3 0 23 1) fun s44 =>
  (wh (fun a : (Int32 × St) => f_Mo_assemble_L31 q4 a.1 a.2) (0, s44)).bind (fun b48 =>
  (f_Mo_fails 5 q4 (b48.2)).bind fun q49 =>
  lt (uI (q49.2) 0 1 0) fun s51 =>
  some ((-1), s51))
set_option maxHeartbeats 4000000 in
set_option maxRecDepth 100000 in
theorem t_Mo_assemble (G : GG) (hR : gR G = rmx 6 136) (hL : gL G = 4) (C : Cx SM G cX12_assemble RX12) {Acc : (Int32 × St) → Prop}   (s : St) (hr : ∀ v : (Int32 × St), Acc v → RtI SM G cX12_assemble v.1 v.2) : JJ SM G Acc (f_Mo_assemble s) 0 [(0, .ref (ad G 0))] [] s := by
  unfold f_Mo_assemble
  refine jr_aload_n C 0 rfl rfl dX12_assemble_0 ?_
  refine jr_iconst C ic_0 dX12_assemble_1 ?_
  refine jr_putI C FX_10 20 oS_0.1 oS_0.2 ff_10_20.1 ff_10_20.2 rfl rfl fl_X12_272 dX12_assemble_2 (jr_ltS fun s1 => ?_)
  refine jr_aload_n C 0 rfl rfl dX12_assemble_5 ?_
  refine jr_iconst C ic_m1 dX12_assemble_6 ?_
  refine jr_putI C FX_10 21 oS_0.1 oS_0.2 ff_10_21.1 ff_10_21.2 rfl rfl fl_X12_48 dX12_assemble_7 (jr_ltS fun s2 => ?_)
  refine jr_aload_n C 0 rfl rfl dX12_assemble_10 ?_
  refine jr_iconst C ic_m1 dX12_assemble_11 ?_
  refine jr_putI C FX_10 22 oS_0.1 oS_0.2 ff_10_22.1 ff_10_22.2 rfl rfl fl_X12_52 dX12_assemble_12 (jr_ltS fun s3 => ?_)
  refine jr_aload_n C 0 rfl rfl dX12_assemble_15 ?_
  refine jr_bind (fun q4 e5 => ?_)
  refine jr_callVI C FX_10 km_X12_371 oS_0.1 oS_0.2 (rk hR rfl) (c_Mo_tooMuch (gl G) s3 e5) rfl rfl rfl (Nat.le_of_ble_eq_true rfl) dX12_assemble_16 ?_
  refine jr_istore_n C (lv' := [(1, .int q4), (0, .ref (ad G 0))]) (ltL hL rfl) rfl rfl dX12_assemble_19 ?_
  refine jr_iload_n C 0 rfl rfl dX12_assemble_20 ?_
  refine jr_if_lt C (tgt := 81) dX12_assemble_21 (by decide) (fun h6 => ?_) (fun h6 => ?_)
  · refine jo_pos h6 ?_
    refine jr_aload_n C 1 rfl rfl dX12_assemble_81 ?_
    refine jr_aload_n C 1 rfl rfl dX12_assemble_82 ?_
    refine jr_getI C FX_10 1 oS_0.1 oS_0.2 ff_10_1.1 ff_10_1.2 fl_X12_368 dX12_assemble_83 ?_
    refine jr_putI C FX_10 3 oS_0.1 oS_0.2 ff_10_3.1 ff_10_3.2 rfl rfl fl_X12_269 dX12_assemble_86 (jr_ltS fun s7 => ?_)
    refine jr_aload_n C 1 rfl rfl dX12_assemble_89 ?_
    refine jr_iconst C ic_0 dX12_assemble_90 ?_
    refine jr_putI C FX_10 1 oS_0.1 oS_0.2 ff_10_1.1 ff_10_1.2 rfl rfl fl_X12_368 dX12_assemble_91 (jr_ltS fun s8 => ?_)
    refine jr_iconst C ic_0 dX12_assemble_94 ?_
    refine jr_istore_n C (lv' := [(2, .int 0), (1, .int q4), (0, .ref (ad G 0))]) (ltL hL rfl) rfl rfl dX12_assemble_95 ?_
    refine jr_lv [2, 0] rfl ?_
    refine jr_loopB (pc := 96) (pcx := 122) (f := fun a : (Int32 × St) => f_Mo_assemble_L96 a.1 a.2) (fun a : (Int32 × St) => [(0, .ref (ad G 0)), (2, .int (a.1))]) (fun a : (Int32 × St) => a.2) (0, s8) (fun a => t_Mo_assemble_L96 G hR hL C  a.1 a.2 (fun _ _ h => h) (fun _ _ h => h)) (fun b11 => ?_)
    refine jr_aload_n C 0 rfl rfl dX12_assemble_122 ?_
    refine jr_iconst C ic_1 dX12_assemble_123 ?_
    refine jr_aload_n C 0 rfl rfl dX12_assemble_124 ?_
    refine jr_getI C FX_10 14 oS_0.1 oS_0.2 ff_10_14.1 ff_10_14.2 fl_X12_355 dX12_assemble_125 ?_
    refine jr_isub C dX12_assemble_128 ?_
    refine jr_putI C FX_10 14 oS_0.1 oS_0.2 ff_10_14.1 ff_10_14.2 rfl rfl fl_X12_355 dX12_assemble_129 (jr_ltS fun s12 => ?_)
    refine jr_aload_n C 0 rfl rfl dX12_assemble_132 ?_
    refine jr_iconst C ic_0 dX12_assemble_133 ?_
    refine jr_putI C FX_10 15 oS_0.1 oS_0.2 ff_10_15.1 ff_10_15.2 rfl rfl fl_X12_348 dX12_assemble_134 (jr_ltS fun s13 => ?_)
    refine jr_aload_n C 0 rfl rfl dX12_assemble_137 ?_
    refine jr_iconst C ic_0 dX12_assemble_138 ?_
    refine jr_putI C FX_10 17 oS_0.1 oS_0.2 ff_10_17.1 ff_10_17.2 rfl rfl fl_X12_323 dX12_assemble_139 (jr_ltS fun s14 => ?_)
    refine jr_aload_n C 0 rfl rfl dX12_assemble_142 ?_
    refine jr_iconst C ic_0 dX12_assemble_143 ?_
    refine jr_putI C FX_10 18 oS_0.1 oS_0.2 ff_10_18.1 ff_10_18.2 rfl rfl fl_X12_365 dX12_assemble_144 (jr_ltS fun s15 => ?_)
    refine jr_aload_n C 0 rfl rfl dX12_assemble_147 ?_
    refine jr_iconst C ic_0 dX12_assemble_148 ?_
    refine jr_putI C FX_10 26 oS_0.1 oS_0.2 ff_10_26.1 ff_10_26.2 rfl rfl fl_X12_285 dX12_assemble_149 (jr_ltS fun s16 => ?_)
    refine jr_aload_n C 0 rfl rfl dX12_assemble_152 ?_
    refine jr_iconst C ic_1 dX12_assemble_153 ?_
    refine jr_putI C FX_10 23 oS_0.1 oS_0.2 ff_10_23.1 ff_10_23.2 rfl rfl fl_X12_275 dX12_assemble_154 (jr_ltS fun s17 => ?_)
    refine jr_lv [0] rfl ?_
    refine jr_loopB (pc := 157) (pcx := 213) (f := fun a : St => f_Mo_assemble_L157  a) (fun a : St => [(0, .ref (ad G 0))]) (fun a : St => a) s17 (fun a => t_Mo_assemble_L157 G hR hL C   a (fun _ h => h) (fun _ h => h)) (fun b25 => ?_)
    refine jr_iconst C ic_0 dX12_assemble_213 ?_
    refine jr_istore_n C (lv' := [(2, .int 0), (0, .ref (ad G 0))]) (ltL hL rfl) rfl rfl dX12_assemble_214 ?_
    refine jr_lv [1, 0] rfl ?_
    refine jr_loopB (pc := 215) (pcx := 299) (f := fun a : (Int32 × St) => f_Mo_assemble_L215 a.1 a.2) (fun a : (Int32 × St) => [(0, .ref (ad G 0)), (2, .int (a.1))]) (fun a : (Int32 × St) => a.2) (0, b25) (fun a => t_Mo_assemble_L215 G hR hL C  a.1 a.2 (fun _ _ h => h) (fun _ _ h => h)) (fun b35 => ?_)
    refine jr_aload_n C 0 rfl rfl dX12_assemble_299 ?_
    refine jr_getI C FX_10 20 oS_0.1 oS_0.2 ff_10_20.1 ff_10_20.2 fl_X12_272 dX12_assemble_300 ?_
    refine jr_if_le C (tgt := 318) dX12_assemble_303 (by decide) (fun h36 => ?_) (fun h36 => ?_)
    · refine jo_pos h36 ?_
      refine jr_aload_n C 0 rfl rfl dX12_assemble_318 ?_
      refine jr_aload_n C 0 rfl rfl dX12_assemble_319 ?_
      refine jr_getI C FX_10 15 oS_0.1 oS_0.2 ff_10_15.1 ff_10_15.2 fl_X12_348 dX12_assemble_320 ?_
      refine jr_putI C FX_10 16 oS_0.1 oS_0.2 ff_10_16.1 ff_10_16.2 rfl rfl fl_X12_377 dX12_assemble_323 (jr_ltS fun s37 => ?_)
      refine jr_aload_n C 0 rfl rfl dX12_assemble_326 ?_
      refine jr_iconst C ic_1 dX12_assemble_327 ?_
      refine jr_putZ C FX_10 19 oS_0.1 oS_0.2 ff_10_19.1 ff_10_19.2 rfl rfl (Or.inr rfl) fl_X12_380 dX12_assemble_328 (jr_ltS fun s38 => ?_)
      refine jr_aload_n C 0 rfl rfl dX12_assemble_331 ?_
      refine jr_iconst C ic_0 dX12_assemble_332 ?_
      refine jr_putI C FX_10 55 oS_0.1 oS_0.2 ff_10_55.1 ff_10_55.2 rfl rfl fl_X12_384 dX12_assemble_333 (jr_ltS fun s39 => ?_)
      refine jr_aload_n C 0 rfl rfl dX12_assemble_336 ?_
      refine jr_iconst C ic_0 dX12_assemble_337 ?_
      refine jr_putI C FX_10 68 oS_0.1 oS_0.2 ff_10_68.1 ff_10_68.2 rfl rfl fl_X12_387 dX12_assemble_338 (jr_ltS fun s40 => ?_)
      refine jr_aload_n C 0 rfl rfl dX12_assemble_341 ?_
      refine jr_iconst C ic_0 dX12_assemble_342 ?_
      refine jr_iconst C ic_0 dX12_assemble_343 ?_
      refine jr_iconst C ic_0 dX12_assemble_344 ?_
      refine jr_bind (fun q41 e42 => ?_)
      refine jr_callVV C FX_10 km_X12_390 oS_0.1 oS_0.2 (rk hR rfl) (c_Mo_start (gl G) 0 0 0 s40 e42) rfl rfl rfl (Nat.le_of_ble_eq_true rfl) dX12_assemble_345 ?_
      refine jr_aload_n C 0 rfl rfl dX12_assemble_348 ?_
      refine jr_getI C FX_10 16 oS_0.1 oS_0.2 ff_10_16.1 ff_10_16.2 fl_X12_377 dX12_assemble_349 ?_
      exact jr_end (fun h => hr ((q41.1 0 16), q41) h _ _ dX12_assemble_352)
    refine jo_neg h36 ?_
    refine jr_aload_n C 0 rfl rfl dX12_assemble_306 ?_
    refine jr_iconst C ic_1 dX12_assemble_307 ?_
    refine jr_aload_n C 0 rfl rfl dX12_assemble_308 ?_
    refine jr_getI C FX_10 14 oS_0.1 oS_0.2 ff_10_14.1 ff_10_14.2 fl_X12_355 dX12_assemble_309 ?_
    refine jr_isub C dX12_assemble_312 ?_
    refine jr_putI C FX_10 14 oS_0.1 oS_0.2 ff_10_14.1 ff_10_14.2 rfl rfl fl_X12_355 dX12_assemble_313 (jr_ltS fun s43 => ?_)
    refine jr_iconst C ic_m1 dX12_assemble_316 ?_
    exact jr_end (fun h => hr ((-1), s43) h _ _ dX12_assemble_317)
  refine jo_neg h6 ?_
  refine jr_aload_n C 1 rfl rfl dX12_assemble_24 ?_
  refine jr_iconst C ic_1 dX12_assemble_25 ?_
  refine jr_putI C FX_10 23 oS_0.1 oS_0.2 ff_10_23.1 ff_10_23.2 rfl rfl fl_X12_275 dX12_assemble_26 (jr_ltS fun s44 => ?_)
  refine jr_iconst C ic_0 dX12_assemble_29 ?_
  refine jr_istore_n C (lv' := [(2, .int 0), (1, .int q4), (0, .ref (ad G 0))]) (ltL hL rfl) rfl rfl dX12_assemble_30 ?_
  refine jr_lv [2, 1, 0] rfl ?_
  refine jr_loopB (pc := 31) (pcx := 67) (f := fun a : (Int32 × St) => f_Mo_assemble_L31 q4 a.1 a.2) (fun a : (Int32 × St) => [(0, .ref (ad G 0)), (1, .int q4), (2, .int (a.1))]) (fun a : (Int32 × St) => a.2) (0, s44) (fun a => t_Mo_assemble_L31 G hR hL C  q4 a.1 a.2 (fun _ _ h => h) (fun _ _ h => h)) (fun b48 => ?_)
  refine jr_aload_n C 0 rfl rfl dX12_assemble_67 ?_
  refine jr_iconst C ic_5 dX12_assemble_68 ?_
  refine jr_iload_n C 1 rfl rfl dX12_assemble_69 ?_
  refine jr_bind (fun q49 e50 => ?_)
  refine jr_callVI C FX_10 km_X12_316 oS_0.1 oS_0.2 (rk hR rfl) (c_Mo_fails (gl G) 5 q4 (b48.2) e50) rfl rfl rfl (Nat.le_of_ble_eq_true rfl) dX12_assemble_70 ?_
  refine jr_pop C rfl dX12_assemble_73 ?_
  refine jr_aload_n C 0 rfl rfl dX12_assemble_74 ?_
  refine jr_iconst C ic_0 dX12_assemble_75 ?_
  refine jr_putI C FX_10 1 oS_0.1 oS_0.2 ff_10_1.1 ff_10_1.2 rfl rfl fl_X12_368 dX12_assemble_76 (jr_ltS fun s51 => ?_)
  refine jr_iconst C ic_m1 dX12_assemble_79 ?_
  exact jr_end (fun h => hr ((-1), s51) h _ _ dX12_assemble_80)
set_option maxRecDepth 100000 in
theorem c_Mo_assemble (l : Launch)   (s : St) {q : (Int32 × St)} (h : f_Mo_assemble s = some q) : CT SM l yX12_assemble cX12_assemble 4 (some .int) 6 136 (fun a => [.ref (a 0)]) s q.2 (fun _ => some (.int q.1)) :=
  ct_I okX_M (by decide) (fun _ => Nat.le_of_ble_eq_true rfl) (fun G hl hR hL C hr => t_Mo_assemble G hR hL C (Acc := fun v => v = q)   s (fun v hv => by rw [hv]; exact hr) ⟨_, h, rfl⟩)
noncomputable def f_Mo_fault (v1 : Int32) (s : St) : Option Int32 :=
  if v1 = 0 then
  some (s.1 0 20)
  else
  if v1 = 1 then
  some (s.1 0 21)
  else
  if v1 = 2 then
  some (s.1 0 22)
  else
  some (-1)
set_option maxHeartbeats 4000000 in
set_option maxRecDepth 100000 in
theorem t_Mo_fault (G : GG) (hR : gR G = rmx 0 0) (hL : gL G = 2) (C : Cx SM G cX12_fault RX12) {Acc : Int32 → Prop}  (v1 : Int32) (s : St) (hr : ∀ v : Int32, Acc v → RtI SM G cX12_fault v s) : JJ SM G Acc (f_Mo_fault v1 s) 0 [(0, .ref (ad G 0)), (1, .int v1)] [] s := by
  unfold f_Mo_fault
  refine jr_iload_n C 1 rfl rfl dX12_fault_0 ?_
  refine jr_if_ne C (tgt := 11) dX12_fault_1 (by decide) (fun h1 => ?_) (fun h1 => ?_)
  · refine jo_neg h1 ?_
    refine jr_iload_n C 1 rfl rfl dX12_fault_11 ?_
    refine jr_iconst C ic_1 dX12_fault_12 ?_
    refine jr_icmp_ne C (tgt := 23) dX12_fault_13 (by decide) (fun h2 => ?_) (fun h2 => ?_)
    · refine jo_neg h2 ?_
      refine jr_iload_n C 1 rfl rfl dX12_fault_23 ?_
      refine jr_iconst C ic_2 dX12_fault_24 ?_
      refine jr_icmp_ne C (tgt := 35) dX12_fault_25 (by decide) (fun h3 => ?_) (fun h3 => ?_)
      · refine jo_neg h3 ?_
        refine jr_iconst C ic_m1 dX12_fault_35 ?_
        exact jr_end (fun h => hr (-1) h _ _ dX12_fault_36)
      refine jo_pos h3 ?_
      refine jr_aload_n C 0 rfl rfl dX12_fault_28 ?_
      refine jr_getI C FX_10 22 oS_0.1 oS_0.2 ff_10_22.1 ff_10_22.2 fl_X12_52 dX12_fault_29 ?_
      refine jr_goto C (tgt := 36) dX12_fault_32 (by decide) ?_
      exact jr_end (fun h => hr (s.1 0 22) h _ _ dX12_fault_36)
    refine jo_pos h2 ?_
    refine jr_aload_n C 0 rfl rfl dX12_fault_16 ?_
    refine jr_getI C FX_10 21 oS_0.1 oS_0.2 ff_10_21.1 ff_10_21.2 fl_X12_48 dX12_fault_17 ?_
    refine jr_goto C (tgt := 36) dX12_fault_20 (by decide) ?_
    exact jr_end (fun h => hr (s.1 0 21) h _ _ dX12_fault_36)
  refine jo_pos h1 ?_
  refine jr_aload_n C 0 rfl rfl dX12_fault_4 ?_
  refine jr_getI C FX_10 20 oS_0.1 oS_0.2 ff_10_20.1 ff_10_20.2 fl_X12_272 dX12_fault_5 ?_
  refine jr_goto C (tgt := 36) dX12_fault_8 (by decide) ?_
  exact jr_end (fun h => hr (s.1 0 20) h _ _ dX12_fault_36)
set_option maxRecDepth 100000 in
theorem c_Mo_fault (l : Launch)  (v1 : Int32) (s : St) {q : Int32} (h : f_Mo_fault v1 s = some q) : CT SM l yX12_fault cX12_fault 2 (some .int) 0 0 (fun a => [.ref (a 0), .int v1]) s s (fun _ => some (.int q)) :=
  ct_I okX_M (by decide) (fun _ => Nat.le_of_ble_eq_true rfl) (fun G hl hR hL C hr => t_Mo_fault G hR hL C (Acc := fun v => v = q)  v1 s (fun v hv => by rw [hv]; exact hr) ⟨_, h, rfl⟩)
noncomputable def f_Mo_unset (v1 : Int32) (v2 : Int32) (s : St) : Option St :=
  lt ((4096 * (s.1 0 28)) + v1) fun x1 =>
  gd x1 8192 <|
  lt (uI s 19 (x1 : Int32).toNatClampNeg (bN 1)) fun s2 =>
  (f_Mo_drawn s2).bind fun q3 =>
  gd x1 8192 <|
  lt (uI (q3.2) 16 (x1 : Int32).toNatClampNeg (q3.1 &&& 255)) fun s5 =>
  gd x1 8192 <|
  lt (uI s5 17 (x1 : Int32).toNatClampNeg 255) fun s6 =>
  gd x1 8192 <|
  lt (uI s6 18 (x1 : Int32).toNatClampNeg v2) fun s7 =>
  some s7
set_option maxHeartbeats 4000000 in
set_option maxRecDepth 100000 in
theorem t_Mo_unset (G : GG) (hR : gR G = rmx 1 20) (hL : gL G = 4) (C : Cx SM G cX12_unset RX12) {Acc : St → Prop}  (v1 : Int32) (v2 : Int32) (s : St) (hr : ∀ v : St, Acc v → RtV SM G cX12_unset v) : JJ SM G Acc (f_Mo_unset v1 v2 s) 0 [(0, .ref (ad G 0)), (1, .int v1), (2, .int v2)] [] s := by
  unfold f_Mo_unset
  refine jr_sipush C sp_4096 dX12_unset_0 ?_
  refine jr_aload_n C 0 rfl rfl dX12_unset_3 ?_
  refine jr_getI C FX_10 28 oS_0.1 oS_0.2 ff_10_28.1 ff_10_28.2 fl_X12_394 dX12_unset_4 ?_
  refine jr_imul C dX12_unset_7 ?_
  refine jr_iload_n C 1 rfl rfl dX12_unset_8 ?_
  refine jr_iadd C dX12_unset_9 ?_
  refine jr_ltI (fun x1 => ?_)
  refine jr_istore_n C (lv' := [(3, .int x1), (0, .ref (ad G 0)), (1, .int v1), (2, .int v2)]) (ltL hL rfl) rfl rfl dX12_unset_10 ?_
  refine jr_aload_n C 1 rfl rfl dX12_unset_11 ?_
  refine jr_getR C FX_10 36 oS_0.1 oS_0.2 ff_10_36.1 ff_10_36.2 rfl fl_X12_73 dX12_unset_12 ?_
  refine jr_iload_n C 0 rfl rfl dX12_unset_15 ?_
  refine jr_iconst C ic_1 dX12_unset_16 ?_
  refine jr_zast C oS_19.1 oS_19.2.1 oS_19.2.2 dX12_unset_17 (jr_ltS fun s2 => ?_)
  refine jr_aload_n C 1 rfl rfl dX12_unset_18 ?_
  refine jr_getR C FX_10 33 oS_0.1 oS_0.2 ff_10_33.1 ff_10_33.2 rfl fl_X12_64 dX12_unset_19 ?_
  refine jr_iload_n C 0 rfl rfl dX12_unset_22 ?_
  refine jr_aload_n C 1 rfl rfl dX12_unset_23 ?_
  refine jr_bind (fun q3 e4 => ?_)
  refine jr_callVI C FX_10 km_X12_415 oS_0.1 oS_0.2 (rk hR rfl) (c_Mo_drawn (gl G) s2 e4) rfl rfl rfl (Nat.le_of_ble_eq_true rfl) dX12_unset_24 ?_
  refine jr_sipush C sp_255 dX12_unset_27 ?_
  refine jr_iand C dX12_unset_30 ?_
  refine jr_iast C oS_16.1 oS_16.2.1 oS_16.2.2 dX12_unset_31 (jr_ltS fun s5 => ?_)
  refine jr_aload_n C 1 rfl rfl dX12_unset_32 ?_
  refine jr_getR C FX_10 34 oS_0.1 oS_0.2 ff_10_34.1 ff_10_34.2 rfl fl_X12_67 dX12_unset_33 ?_
  refine jr_iload_n C 0 rfl rfl dX12_unset_36 ?_
  refine jr_sipush C sp_255 dX12_unset_37 ?_
  refine jr_iast C oS_17.1 oS_17.2.1 oS_17.2.2 dX12_unset_40 (jr_ltS fun s6 => ?_)
  refine jr_aload_n C 1 rfl rfl dX12_unset_41 ?_
  refine jr_getR C FX_10 35 oS_0.1 oS_0.2 ff_10_35.1 ff_10_35.2 rfl fl_X12_70 dX12_unset_42 ?_
  refine jr_iload_n C 0 rfl rfl dX12_unset_45 ?_
  refine jr_iload_n C 3 rfl rfl dX12_unset_46 ?_
  refine jr_iast C oS_18.1 oS_18.2.1 oS_18.2.2 dX12_unset_47 (jr_ltS fun s7 => ?_)
  exact jr_end (fun h => hr s7 h _ _ dX12_unset_48)
set_option maxRecDepth 100000 in
theorem c_Mo_unset (l : Launch)  (v1 : Int32) (v2 : Int32) (s : St) {q : St} (h : f_Mo_unset v1 v2 s = some q) : CT SM l yX12_unset cX12_unset 4 none 1 20 (fun a => [.ref (a 0), .int v1, .int v2]) s q (fun _ => none) :=
  ct_V okX_M (by decide) (fun _ => Nat.le_of_ble_eq_true rfl) (fun G hl hR hL C hr => t_Mo_unset G hR hL C (Acc := fun v => v = q)  v1 v2 s (fun v hv => by rw [hv]; exact hr) ⟨_, h, rfl⟩)
