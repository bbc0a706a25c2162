noncomputable def f_As_readOperand_J155 (v1 : Int32) (v2 : Int32) (s : St) : Option (Int32 × St) :=
  if v1 = 76 then
  ((f_As_isLabel s).bind fun q6 =>
  if q6 = 0 then
  some (0, s)
  else
  gd v2 200 <|
  lt (uJ s 7 (v2 : Int32).toNatClampNeg (s.2.1 3 5)) fun s9 =>
  gd v2 200 <|
  lt (uI s9 8 (v2 : Int32).toNatClampNeg (s9.1 3 4)) fun s10 =>
  gd v2 200 <|
  lt (uI s10 9 (v2 : Int32).toNatClampNeg (s10.1 2 8)) fun s11 =>
  some (1, s11))
  else
  some (0, s)
set_option maxHeartbeats 4000000 in
set_option maxRecDepth 100000 in
theorem t_As_readOperand_J155 (G : GG) (hR : gR G = rmx 2 43) (hL : gL G = 6) (C : Cx SC G cX0_readOperand RX0) {Acc : (Int32 × St) → Prop}  (v1 : Int32) (v2 : Int32) (s : St) (hr : ∀ v : (Int32 × St), Acc v → RtZ SC G cX0_readOperand v.1 v.2) : JJ SC G Acc (f_As_readOperand_J155 v1 v2 s) 155 [(0, .ref (ad G 2)), (1, .int v1), (2, .int v2)] [] s := by
  unfold f_As_readOperand_J155
  refine jr_iload_n C 1 rfl rfl dX0_readOperand_155 ?_
  refine jr_bipush C bp_76 dX0_readOperand_156 ?_
  refine jr_icmp_ne C (tgt := 206) dX0_readOperand_158 (by decide) (fun h5 => ?_) (fun h5 => ?_)
  · refine jo_neg h5 ?_
    refine jr_iconst C ic_0 dX0_readOperand_206 ?_
    exact jr_end (fun h => hr (0, s) h _ _ _ bN0 dX0_readOperand_207)
  refine jo_pos h5 ?_
  refine jr_aload_n C 0 rfl rfl dX0_readOperand_161 ?_
  refine jr_bind (fun q6 e7 => ?_)
  refine jr_callVI C FX_0 km_X0_109 oC_2.1 oC_2.2 (rk hR rfl) (c_As_isLabel (gl G) s e7) rfl rfl rfl (Nat.le_of_ble_eq_true rfl) dX0_readOperand_162 ?_
  refine jr_if_eq C (tgt := 206) dX0_readOperand_165 (by decide) (fun h8 => ?_) (fun h8 => ?_)
  · refine jo_pos h8 ?_
    refine jr_iconst C ic_0 dX0_readOperand_206 ?_
    exact jr_end (fun h => hr (0, s) h _ _ _ bN0 dX0_readOperand_207)
  refine jo_neg h8 ?_
  refine jr_aload_n C 0 rfl rfl dX0_readOperand_168 ?_
  refine jr_getR C FX_0 5 oC_2.1 oC_2.2 ff_0_5.1 ff_0_5.2 rfl fl_X0_33 dX0_readOperand_169 ?_
  refine jr_iload_n C 2 rfl rfl dX0_readOperand_172 ?_
  refine jr_aload_n C 0 rfl rfl dX0_readOperand_173 ?_
  refine jr_getR C FX_0 0 oC_2.1 oC_2.2 ff_0_0.1 ff_0_0.2 rfl fl_X0_12 dX0_readOperand_174 ?_
  refine jr_getJ C FX_8 5 oC_3.1 oC_3.2 ff_8_5.1 ff_8_5.2 fl_X0_115 dX0_readOperand_177 ?_
  refine jr_last C oC_7.1 oC_7.2.1 oC_7.2.2 dX0_readOperand_180 (jr_ltS fun s9 => ?_)
  refine jr_aload_n C 0 rfl rfl dX0_readOperand_181 ?_
  refine jr_getR C FX_0 6 oC_2.1 oC_2.2 ff_0_6.1 ff_0_6.2 rfl fl_X0_36 dX0_readOperand_182 ?_
  refine jr_iload_n C 2 rfl rfl dX0_readOperand_185 ?_
  refine jr_aload_n C 0 rfl rfl dX0_readOperand_186 ?_
  refine jr_getR C FX_0 0 oC_2.1 oC_2.2 ff_0_0.1 ff_0_0.2 rfl fl_X0_12 dX0_readOperand_187 ?_
  refine jr_getI C FX_8 4 oC_3.1 oC_3.2 ff_8_4.1 ff_8_4.2 fl_X0_103 dX0_readOperand_190 ?_
  refine jr_iast C oC_8.1 oC_8.2.1 oC_8.2.2 dX0_readOperand_193 (jr_ltS fun s10 => ?_)
  refine jr_aload_n C 0 rfl rfl dX0_readOperand_194 ?_
  refine jr_getR C FX_0 7 oC_2.1 oC_2.2 ff_0_7.1 ff_0_7.2 rfl fl_X0_39 dX0_readOperand_195 ?_
  refine jr_iload_n C 2 rfl rfl dX0_readOperand_198 ?_
  refine jr_aload_n C 0 rfl rfl dX0_readOperand_199 ?_
  refine jr_getI C FX_0 8 oC_2.1 oC_2.2 ff_0_8.1 ff_0_8.2 fl_X0_67 dX0_readOperand_200 ?_
  refine jr_iast C oC_9.1 oC_9.2.1 oC_9.2.2 dX0_readOperand_203 (jr_ltS fun s11 => ?_)
  refine jr_iconst C ic_1 dX0_readOperand_204 ?_
  exact jr_end (fun h => hr (1, s11) h _ _ _ bN1 dX0_readOperand_205)
noncomputable def f_As_readOperand_J152 (w0 : Int32) (w1 : Int32) (ow2 : Nat) (s : St) : Option (Int32 × St) :=
  gd w1 200 <|
  lt (uI s (ow2 + 3) (w1 : Int32).toNatClampNeg (bN w0)) fun s22 =>
  some (1, s22)
set_option maxHeartbeats 4000000 in
set_option maxRecDepth 100000 in
theorem t_As_readOperand_J152 (G : GG) (hR : gR G = rmx 2 43) (hL : gL G = 6) (C : Cx SC G cX0_readOperand RX0) {Acc : (Int32 × St) → Prop} {ow2 : Nat} (how2 : isP ow2) (w0 : Int32) (w1 : Int32) (s : St) (hr : ∀ v : (Int32 × St), Acc v → RtZ SC G cX0_readOperand v.1 v.2) : JJ SC G Acc (f_As_readOperand_J152 w0 w1 ow2 s) 152 [] [.int w0, .int w1, .ref (ad G (ow2 + 3))] s := by
  unfold f_As_readOperand_J152
  refine jr_zast C (oP_3 how2).1 (oP_3 how2).2.1 (oP_3 how2).2.2 dX0_readOperand_152 (jr_ltS fun s22 => ?_)
  refine jr_iconst C ic_1 dX0_readOperand_153 ?_
  exact jr_end (fun h => hr (1, s22) h _ _ _ bN1 dX0_readOperand_154)
noncomputable def f_As_readOperand_J147 (w0 : Int32) (ow1 : Nat) (s : St) : Option (Int32 × St) :=
  f_As_readOperand_J152 1 w0 ow1 s
set_option maxHeartbeats 4000000 in
set_option maxRecDepth 100000 in
theorem t_As_readOperand_J147 (G : GG) (hR : gR G = rmx 2 43) (hL : gL G = 6) (C : Cx SC G cX0_readOperand RX0) {Acc : (Int32 × St) → Prop} {ow1 : Nat} (how1 : isP ow1) (w0 : Int32) (s : St) (hr : ∀ v : (Int32 × St), Acc v → RtZ SC G cX0_readOperand v.1 v.2) : JJ SC G Acc (f_As_readOperand_J147 w0 ow1 s) 147 [] [.int w0, .ref (ad G (ow1 + 3))] s := by
  unfold f_As_readOperand_J147
  refine jr_iconst C ic_1 dX0_readOperand_147 ?_
  refine jr_goto C (tgt := 152) dX0_readOperand_148 (by decide) ?_
  exact t_As_readOperand_J152 G hR hL C how1 1 w0 s hr
noncomputable def f_As_readOperand_J105 (v1 : Int32) (v2 : Int32) (v3 : Int32) (s : St) : Option (Int32 × St) :=
  gP (s.2.2 2) fun p13 =>
  (f_Pr_setOperand p13 v2 v3 (s.1 3 6) s).bind fun q15 =>
  gP (q15.2.2 2) fun p17 =>
  gP (q15.2.2 2) fun p19 =>
  gd v2 200 <|
  if (q15.1 (p19 + 3) (v2 : Int32).toNatClampNeg) = 0 then
  (if v1 = 88 then
  f_As_readOperand_J147 v2 p17 q15
  else
  f_As_readOperand_J152 0 v2 p17 q15)
  else
  f_As_readOperand_J147 v2 p17 q15
set_option maxHeartbeats 4000000 in
set_option maxRecDepth 100000 in
theorem t_As_readOperand_J105 (G : GG) (hR : gR G = rmx 2 43) (hL : gL G = 6) (C : Cx SC G cX0_readOperand RX0) {Acc : (Int32 × St) → Prop}  (v1 : Int32) (v2 : Int32) (v3 : Int32) (s : St) (hr : ∀ v : (Int32 × St), Acc v → RtZ SC G cX0_readOperand v.1 v.2) : JJ SC G Acc (f_As_readOperand_J105 v1 v2 v3 s) 105 [(0, .ref (ad G 2)), (1, .int v1), (2, .int v2), (3, .int v3)] [] s := by
  unfold f_As_readOperand_J105
  refine jr_aload_n C 0 rfl rfl dX0_readOperand_105 ?_
  refine jr_getP C FX_0 9 oC_2.1 oC_2.2 ff_0_9.1 ff_0_9.2 (fun hp => rX_p rfl (pne hp)) fl_X0_70 dX0_readOperand_106 (fun p13 h14 => ?_)
  refine jr_iload_n C 2 rfl rfl dX0_readOperand_109 ?_
  refine jr_iload_n C 3 rfl rfl dX0_readOperand_110 ?_
  refine jr_aload_n C 0 rfl rfl dX0_readOperand_111 ?_
  refine jr_getR C FX_0 0 oC_2.1 oC_2.2 ff_0_0.1 ff_0_0.2 rfl fl_X0_12 dX0_readOperand_112 ?_
  refine jr_getI C FX_8 6 oC_3.1 oC_3.2 ff_8_6.1 ff_8_6.2 fl_X0_157 dX0_readOperand_115 ?_
  refine jr_bind (fun q15 e16 => ?_)
  refine jr_callVV C FX_7 km_X0_154 (oP_0 h14).1 (oP_0 h14).2 (rk hR rfl) (c_Pr_setOperand (gl G) h14 v2 v3 (s.1 3 6) s e16) rfl rfl rfl (Nat.le_of_ble_eq_true rfl) dX0_readOperand_118 ?_
  refine jr_aload_n C 0 rfl rfl dX0_readOperand_121 ?_
  refine jr_getP C FX_0 9 oC_2.1 oC_2.2 ff_0_9.1 ff_0_9.2 (fun hp => rX_p rfl (pne hp)) fl_X0_70 dX0_readOperand_122 (fun p17 h18 => ?_)
  refine jr_getR C FX_7 2 (oP_0 h18).1 (oP_0 h18).2 ff_7_2.1 ff_7_2.2 (rP_0_2 _ h18) fl_X0_143 dX0_readOperand_125 ?_
  refine jr_iload_n C 2 rfl rfl dX0_readOperand_128 ?_
  refine jr_aload_n C 0 rfl rfl dX0_readOperand_129 ?_
  refine jr_getP C FX_0 9 oC_2.1 oC_2.2 ff_0_9.1 ff_0_9.2 (fun hp => rX_p rfl (pne hp)) fl_X0_70 dX0_readOperand_130 (fun p19 h20 => ?_)
  refine jr_getR C FX_7 2 (oP_0 h20).1 (oP_0 h20).2 ff_7_2.1 ff_7_2.2 (rP_0_2 _ h20) fl_X0_143 dX0_readOperand_133 ?_
  refine jr_iload_n C 2 rfl rfl dX0_readOperand_136 ?_
  refine jr_zald C (oP_3 h20).1 (oP_3 h20).2.1 (oP_3 h20).2.2 dX0_readOperand_137 ?_
  refine jr_if_ne C (tgt := 147) dX0_readOperand_138 (by decide) (fun h21 => ?_) (fun h21 => ?_)
  · refine jo_neg h21 ?_
    refine jr_lv [] rfl ?_
    exact t_As_readOperand_J147 G hR hL C h18 v2 q15 hr
  refine jo_pos h21 ?_
  refine jr_iload_n C 1 rfl rfl dX0_readOperand_141 ?_
  refine jr_bipush C bp_88 dX0_readOperand_142 ?_
  refine jr_icmp_ne C (tgt := 151) dX0_readOperand_144 (by decide) (fun h23 => ?_) (fun h23 => ?_)
  · refine jo_neg h23 ?_
    refine jr_iconst C ic_0 dX0_readOperand_151 ?_
    refine jr_lv [] rfl ?_
    exact t_As_readOperand_J152 G hR hL C h18 0 v2 q15 hr
  refine jo_pos h23 ?_
  refine jr_lv [] rfl ?_
  exact t_As_readOperand_J147 G hR hL C h18 v2 q15 hr
noncomputable def f_As_readOperand_J88 (v1 : Int32) (v2 : Int32) (v3 : Int32) (v5 : Int32) (s : St) : Option (Int32 × St) :=
  if v5 = 0 then
  f_As_readOperand_J155 v1 v2 s
  else
  if v1 = 78 then
  f_As_readOperand_J105 v1 v2 v3 s
  else
  if v1 = 88 then
  f_As_readOperand_J105 v1 v2 v3 s
  else
  f_As_readOperand_J155 v1 v2 s
set_option maxHeartbeats 4000000 in
set_option maxRecDepth 100000 in
theorem t_As_readOperand_J88 (G : GG) (hR : gR G = rmx 2 43) (hL : gL G = 6) (C : Cx SC G cX0_readOperand RX0) {Acc : (Int32 × St) → Prop}  (v1 : Int32) (v2 : Int32) (v3 : Int32) (v5 : Int32) (s : St) (hr : ∀ v : (Int32 × St), Acc v → RtZ SC G cX0_readOperand v.1 v.2) : JJ SC G Acc (f_As_readOperand_J88 v1 v2 v3 v5 s) 88 [(0, .ref (ad G 2)), (1, .int v1), (2, .int v2), (3, .int v3), (5, .int v5)] [] s := by
  unfold f_As_readOperand_J88
  refine jr_iload C 4 rfl dX0_readOperand_88 ?_
  refine jr_if_eq C (tgt := 155) dX0_readOperand_90 (by decide) (fun h4 => ?_) (fun h4 => ?_)
  · refine jo_pos h4 ?_
    refine jr_lv [0, 1, 2] rfl ?_
    exact t_As_readOperand_J155 G hR hL C  v1 v2 s hr
  refine jo_neg h4 ?_
  refine jr_iload_n C 1 rfl rfl dX0_readOperand_93 ?_
  refine jr_bipush C bp_78 dX0_readOperand_94 ?_
  refine jr_icmp_eq C (tgt := 105) dX0_readOperand_96 (by decide) (fun h12 => ?_) (fun h12 => ?_)
  · refine jo_pos h12 ?_
    refine jr_lv [0, 1, 2, 3] rfl ?_
    exact t_As_readOperand_J105 G hR hL C  v1 v2 v3 s hr
  refine jo_neg h12 ?_
  refine jr_iload_n C 1 rfl rfl dX0_readOperand_99 ?_
  refine jr_bipush C bp_88 dX0_readOperand_100 ?_
  refine jr_icmp_ne C (tgt := 155) dX0_readOperand_102 (by decide) (fun h24 => ?_) (fun h24 => ?_)
  · refine jo_neg h24 ?_
    refine jr_lv [0, 1, 2] rfl ?_
    exact t_As_readOperand_J155 G hR hL C  v1 v2 s hr
  refine jo_pos h24 ?_
  refine jr_lv [0, 1, 2, 3] rfl ?_
  exact t_As_readOperand_J105 G hR hL C  v1 v2 v3 s hr
noncomputable def f_As_readOperand_J67 (v2 : Int32) (v3 : Int32) (s : St) : Option (Int32 × St) :=
  gP (s.2.2 2) fun p26 =>
  (f_Pr_setOperand p26 v2 v3 (f_As_registerOf (s.2.1 3 5)) s).bind fun q28 =>
  some (1, q28)
set_option maxHeartbeats 4000000 in
set_option maxRecDepth 100000 in
theorem t_As_readOperand_J67 (G : GG) (hR : gR G = rmx 2 43) (hL : gL G = 6) (C : Cx SC G cX0_readOperand RX0) {Acc : (Int32 × St) → Prop}  (v2 : Int32) (v3 : Int32) (s : St) (hr : ∀ v : (Int32 × St), Acc v → RtZ SC G cX0_readOperand v.1 v.2) : JJ SC G Acc (f_As_readOperand_J67 v2 v3 s) 67 [(0, .ref (ad G 2)), (2, .int v2), (3, .int v3)] [] s := by
  unfold f_As_readOperand_J67
  refine jr_aload_n C 0 rfl rfl dX0_readOperand_67 ?_
  refine jr_getP C FX_0 9 oC_2.1 oC_2.2 ff_0_9.1 ff_0_9.2 (fun hp => rX_p rfl (pne hp)) fl_X0_70 dX0_readOperand_68 (fun p26 h27 => ?_)
  refine jr_iload_n C 1 rfl rfl dX0_readOperand_71 ?_
  refine jr_iload_n C 2 rfl rfl dX0_readOperand_72 ?_
  refine jr_aload_n C 0 rfl rfl dX0_readOperand_73 ?_
  refine jr_getR C FX_0 0 oC_2.1 oC_2.2 ff_0_0.1 ff_0_0.2 rfl fl_X0_12 dX0_readOperand_74 ?_
  refine jr_getJ C FX_8 5 oC_3.1 oC_3.2 ff_8_5.1 ff_8_5.2 fl_X0_115 dX0_readOperand_77 ?_
  refine jr_callSI C km_X0_151 (rk hR rfl) (c_As_registerOf (gl G) (s.2.1 3 5) s) rfl rfl rfl (Nat.le_of_ble_eq_true rfl) dX0_readOperand_80 ?_
  refine jr_bind (fun q28 e29 => ?_)
  refine jr_callVV C FX_7 km_X0_154 (oP_0 h27).1 (oP_0 h27).2 (rk hR rfl) (c_Pr_setOperand (gl G) h27 v2 v3 (f_As_registerOf (s.2.1 3 5)) s e29) rfl rfl rfl (Nat.le_of_ble_eq_true rfl) dX0_readOperand_83 ?_
  refine jr_iconst C ic_1 dX0_readOperand_86 ?_
  exact jr_end (fun h => hr (1, q28) h _ _ _ bN1 dX0_readOperand_87)
noncomputable def f_As_readOperand_J48 (v1 : Int32) (v2 : Int32) (v3 : Int32) (v4 : Int32) (w0 : Int32) (s : St) : Option (Int32 × St) :=
  if v4 = 0 then
  f_As_readOperand_J88 v1 v2 v3 w0 s
  else
  if v1 = 82 then
  f_As_readOperand_J67 v2 v3 s
  else
  if v1 = 88 then
  f_As_readOperand_J67 v2 v3 s
  else
  f_As_readOperand_J88 v1 v2 v3 w0 s
set_option maxHeartbeats 4000000 in
set_option maxRecDepth 100000 in
theorem t_As_readOperand_J48 (G : GG) (hR : gR G = rmx 2 43) (hL : gL G = 6) (C : Cx SC G cX0_readOperand RX0) {Acc : (Int32 × St) → Prop}  (v1 : Int32) (v2 : Int32) (v3 : Int32) (v4 : Int32) (w0 : Int32) (s : St) (hr : ∀ v : (Int32 × St), Acc v → RtZ SC G cX0_readOperand v.1 v.2) : JJ SC G Acc (f_As_readOperand_J48 v1 v2 v3 v4 w0 s) 48 [(0, .ref (ad G 2)), (1, .int v1), (2, .int v2), (3, .int v3), (4, .int v4)] [.int w0] s := by
  unfold f_As_readOperand_J48
  refine jr_istore C (lv' := [(5, .int w0), (0, .ref (ad G 2)), (1, .int v1), (2, .int v2), (3, .int v3), (4, .int v4)]) (ltL hL rfl) rfl dX0_readOperand_48 ?_
  refine jr_iload C 5 rfl dX0_readOperand_50 ?_
  refine jr_if_eq C (tgt := 88) dX0_readOperand_52 (by decide) (fun h3 => ?_) (fun h3 => ?_)
  · refine jo_pos h3 ?_
    refine jr_lv [1, 2, 3, 4, 0] rfl ?_
    exact t_As_readOperand_J88 G hR hL C  v1 v2 v3 w0 s hr
  refine jo_neg h3 ?_
  refine jr_iload_n C 2 rfl rfl dX0_readOperand_55 ?_
  refine jr_bipush C bp_82 dX0_readOperand_56 ?_
  refine jr_icmp_eq C (tgt := 67) dX0_readOperand_58 (by decide) (fun h25 => ?_) (fun h25 => ?_)
  · refine jo_pos h25 ?_
    refine jr_lv [1, 3, 4] rfl ?_
    exact t_As_readOperand_J67 G hR hL C  v2 v3 s hr
  refine jo_neg h25 ?_
  refine jr_iload_n C 2 rfl rfl dX0_readOperand_61 ?_
  refine jr_bipush C bp_88 dX0_readOperand_62 ?_
  refine jr_icmp_ne C (tgt := 88) dX0_readOperand_64 (by decide) (fun h30 => ?_) (fun h30 => ?_)
  · refine jo_neg h30 ?_
    refine jr_lv [1, 2, 3, 4, 0] rfl ?_
    exact t_As_readOperand_J88 G hR hL C  v1 v2 v3 w0 s hr
  refine jo_pos h30 ?_
  refine jr_lv [1, 3, 4] rfl ?_
  exact t_As_readOperand_J67 G hR hL C  v2 v3 s hr
noncomputable def f_As_readOperand_J30 (v1 : Int32) (v2 : Int32) (v3 : Int32) (w0 : Int32) (s : St) : Option (Int32 × St) :=
  if (s.1 3 3) = 2 then
  f_As_readOperand_J48 v1 v2 v3 w0 1 s
  else
  f_As_readOperand_J48 v1 v2 v3 w0 0 s
set_option maxHeartbeats 4000000 in
set_option maxRecDepth 100000 in
theorem t_As_readOperand_J30 (G : GG) (hR : gR G = rmx 2 43) (hL : gL G = 6) (C : Cx SC G cX0_readOperand RX0) {Acc : (Int32 × St) → Prop}  (v1 : Int32) (v2 : Int32) (v3 : Int32) (w0 : Int32) (s : St) (hr : ∀ v : (Int32 × St), Acc v → RtZ SC G cX0_readOperand v.1 v.2) : JJ SC G Acc (f_As_readOperand_J30 v1 v2 v3 w0 s) 30 [(0, .ref (ad G 2)), (1, .int v1), (2, .int v2), (3, .int v3)] [.int w0] s := by
  unfold f_As_readOperand_J30
  refine jr_istore C (lv' := [(4, .int w0), (0, .ref (ad G 2)), (1, .int v1), (2, .int v2), (3, .int v3)]) (ltL hL rfl) rfl dX0_readOperand_30 ?_
  refine jr_aload_n C 1 rfl rfl dX0_readOperand_32 ?_
  refine jr_getR C FX_0 0 oC_2.1 oC_2.2 ff_0_0.1 ff_0_0.2 rfl fl_X0_12 dX0_readOperand_33 ?_
  refine jr_getI C FX_8 3 oC_3.1 oC_3.2 ff_8_3.1 ff_8_3.2 fl_X0_100 dX0_readOperand_36 ?_
  refine jr_iconst C ic_2 dX0_readOperand_39 ?_
  refine jr_icmp_ne C (tgt := 47) dX0_readOperand_40 (by decide) (fun h2 => ?_) (fun h2 => ?_)
  · refine jo_neg h2 ?_
    refine jr_iconst C ic_0 dX0_readOperand_47 ?_
    refine jr_lv [1, 2, 3, 4, 0] rfl ?_
    exact t_As_readOperand_J48 G hR hL C  v1 v2 v3 w0 0 s hr
  refine jo_pos h2 ?_
  refine jr_iconst C ic_1 dX0_readOperand_43 ?_
  refine jr_goto C (tgt := 48) dX0_readOperand_44 (by decide) ?_
  refine jr_lv [1, 2, 3, 4, 0] rfl ?_
  exact t_As_readOperand_J48 G hR hL C  v1 v2 v3 w0 1 s hr
noncomputable def f_As_readOperand_J29 (v1 : Int32) (v2 : Int32) (v3 : Int32) (s : St) : Option (Int32 × St) :=
  f_As_readOperand_J30 v1 v2 v3 0 s
set_option maxHeartbeats 4000000 in
set_option maxRecDepth 100000 in
theorem t_As_readOperand_J29 (G : GG) (hR : gR G = rmx 2 43) (hL : gL G = 6) (C : Cx SC G cX0_readOperand RX0) {Acc : (Int32 × St) → Prop}  (v1 : Int32) (v2 : Int32) (v3 : Int32) (s : St) (hr : ∀ v : (Int32 × St), Acc v → RtZ SC G cX0_readOperand v.1 v.2) : JJ SC G Acc (f_As_readOperand_J29 v1 v2 v3 s) 29 [(0, .ref (ad G 2)), (1, .int v1), (2, .int v2), (3, .int v3)] [] s := by
  unfold f_As_readOperand_J29
  refine jr_iconst C ic_0 dX0_readOperand_29 ?_
  exact t_As_readOperand_J30 G hR hL C  v1 v2 v3 0 s hr
noncomputable def f_As_readOperand (v1 : Int32) (v2 : Int32) (v3 : Int32) (s : St) : Option (Int32 × St) :=
  if (s.1 3 3) = 1 then
  (if (f_As_registerOf (s.2.1 3 5)) = (-1) then
  f_As_readOperand_J29 v1 v2 v3 s
  else
  f_As_readOperand_J30 v1 v2 v3 1 s)
  else
  f_As_readOperand_J29 v1 v2 v3 s
set_option maxHeartbeats 4000000 in
set_option maxRecDepth 100000 in
theorem t_As_readOperand (G : GG) (hR : gR G = rmx 2 43) (hL : gL G = 6) (C : Cx SC G cX0_readOperand RX0) {Acc : (Int32 × St) → Prop}  (v1 : Int32) (v2 : Int32) (v3 : Int32) (s : St) (hr : ∀ v : (Int32 × St), Acc v → RtZ SC G cX0_readOperand v.1 v.2) : JJ SC G Acc (f_As_readOperand v1 v2 v3 s) 0 [(0, .ref (ad G 2)), (1, .int v1), (2, .int v2), (3, .int v3)] [] s := by
  unfold f_As_readOperand
  refine jr_aload_n C 0 rfl rfl dX0_readOperand_0 ?_
  refine jr_getR C FX_0 0 oC_2.1 oC_2.2 ff_0_0.1 ff_0_0.2 rfl fl_X0_12 dX0_readOperand_1 ?_
  refine jr_getI C FX_8 3 oC_3.1 oC_3.2 ff_8_3.1 ff_8_3.2 fl_X0_100 dX0_readOperand_4 ?_
  refine jr_iconst C ic_1 dX0_readOperand_7 ?_
  refine jr_icmp_ne C (tgt := 29) dX0_readOperand_8 (by decide) (fun h1 => ?_) (fun h1 => ?_)
  · refine jo_neg h1 ?_
    exact t_As_readOperand_J29 G hR hL C  v1 v2 v3 s hr
  refine jo_pos h1 ?_
  refine jr_aload_n C 0 rfl rfl dX0_readOperand_11 ?_
  refine jr_getR C FX_0 0 oC_2.1 oC_2.2 ff_0_0.1 ff_0_0.2 rfl fl_X0_12 dX0_readOperand_12 ?_
  refine jr_getJ C FX_8 5 oC_3.1 oC_3.2 ff_8_5.1 ff_8_5.2 fl_X0_115 dX0_readOperand_15 ?_
  refine jr_callSI C km_X0_151 (rk hR rfl) (c_As_registerOf (gl G) (s.2.1 3 5) s) rfl rfl rfl (Nat.le_of_ble_eq_true rfl) dX0_readOperand_18 ?_
  refine jr_iconst C ic_m1 dX0_readOperand_21 ?_
  refine jr_icmp_eq C (tgt := 29) dX0_readOperand_22 (by decide) (fun h31 => ?_) (fun h31 => ?_)
  · refine jo_pos h31 ?_
    exact t_As_readOperand_J29 G hR hL C  v1 v2 v3 s hr
  refine jo_neg h31 ?_
  refine jr_iconst C ic_1 dX0_readOperand_25 ?_
  refine jr_goto C (tgt := 30) dX0_readOperand_26 (by decide) ?_
  exact t_As_readOperand_J30 G hR hL C  v1 v2 v3 1 s hr
set_option maxRecDepth 100000 in
theorem c_As_readOperand (l : Launch)  (v1 : Int32) (v2 : Int32) (v3 : Int32) (s : St) {q : (Int32 × St)} (h : f_As_readOperand v1 v2 v3 s = some q) : CT SC l yX0_readOperand cX0_readOperand 6 (some .boolean) 2 43 (fun a => [.ref (a 2), .int v1, .int v2, .int v3]) s q.2 (fun _ => some (.int q.1)) :=
  ct_Z okX_C (by decide) (fun _ => Nat.le_of_ble_eq_true rfl) (fun G hl hR hL C hr => t_As_readOperand G hR hL C (Acc := fun v => v = q)  v1 v2 v3 s (fun v hv => by rw [hv]; exact hr) ⟨_, h, rfl⟩)
noncomputable def f_As_readInstruction_J99_1 (v2 : Int32) (v3 : Nat) (v4 : Int32) (s : St) : Option ((Int32 × St) ⊕ ((Int32 × St) ⊕ (Int32 × St))) :=
  if isT v3 ∧ vp_inb v4 (tn v3) = true then
  ((f_As_readOperand (tc v3 v4) v2 v4 s).bind fun q18 =>
  if q18.1 = 0 then
  ((f_As_refusePiece (q18.2)).bind fun q21 =>
  some (.inr (.inr ((bN (q21.1)), q21.2))))
  else
  some (.inl ((v4 + 1), q18.2)))
  else none
set_option maxHeartbeats 4000000 in
set_option maxRecDepth 100000 in
theorem t_As_readInstruction_J99_1 (G : GG) (hR : gR G = rmx 5 131) (hL : gL G = 5) (C : Cx SC G cX0_readInstruction RX0) {Acc : ((Int32 × St) ⊕ ((Int32 × St) ⊕ (Int32 × St))) → Prop}  (v2 : Int32) (v3 : Nat) (v4 : Int32) (s : St) (hb1 : ∀ (a4 : Int32) (t : St), Acc (.inl (a4, t)) → KK SC G 55 [(0, .ref (ad G 2)), (2, .int v2), (3, .ref (ad G v3)), (4, .int a4)] [] t) (hx1 : ∀ (a4 : Int32) (t : St), Acc (.inr (.inl (a4, t))) → KK SC G 126 [(0, .ref (ad G 2)), (2, .int v2), (3, .ref (ad G v3)), (4, .int a4)] [] t) (hr : ∀ v : (Int32 × St), Acc (.inr (.inr v)) → RtZ SC G cX0_readInstruction v.1 v.2) : JJ SC G Acc (f_As_readInstruction_J99_1 v2 v3 v4 s) 99 [(0, .ref (ad G 2)), (2, .int v2), (3, .ref (ad G v3)), (4, .int v4)] [] s := by
  unfold f_As_readInstruction_J99_1
  refine jr_aload_n C 0 rfl rfl dX0_readInstruction_99 ?_
  refine jr_aload_n C 2 rfl rfl dX0_readInstruction_100 ?_
  refine jr_iload C 3 rfl dX0_readInstruction_101 ?_
  refine jo_if (fun h17 => ?_)
  refine jr_charAt C h17 km_X0_57 (rk hR rfl) (Nat.le_of_ble_eq_true rfl) dX0_readInstruction_103 ?_
  refine jr_iload_n C 1 rfl rfl dX0_readInstruction_106 ?_
  refine jr_iload C 3 rfl dX0_readInstruction_107 ?_
  refine jr_bind (fun q18 e19 => ?_)
  refine jr_callVI C FX_0 km_X0_147 oC_2.1 oC_2.2 (rk hR rfl) (c_As_readOperand (gl G) (tc v3 v4) v2 v4 s e19) rfl rfl rfl (Nat.le_of_ble_eq_true rfl) dX0_readInstruction_109 ?_
  refine jr_if_ne C (tgt := 120) dX0_readInstruction_112 (by decide) (fun h20 => ?_) (fun h20 => ?_)
  · refine jo_neg h20 ?_
    refine jr_iinc C 3 rfl ii_1 (lv' := [(4, .int (v4 + 1)), (0, .ref (ad G 2)), (2, .int v2), (3, .ref (ad G v3))]) (ltL hL rfl) rfl dX0_readInstruction_120 ?_
    refine jr_goto C (tgt := 55) dX0_readInstruction_123 (by decide) ?_
    refine jr_lv [1, 2, 3, 0] rfl ?_
    exact jr_end (fun h => hb1 (v4 + 1) (q18.2) h)
  refine jo_pos h20 ?_
  refine jr_aload_n C 0 rfl rfl dX0_readInstruction_115 ?_
  refine jr_bind (fun q21 e22 => ?_)
  refine jr_callVI C FX_0 km_X0_123 oC_2.1 oC_2.2 (rk hR rfl) (c_As_refusePiece (gl G) (q18.2) e22) rfl rfl rfl (Nat.le_of_ble_eq_true rfl) dX0_readInstruction_116 ?_
  exact jr_end (fun h => hr ((bN (q21.1)), q21.2) h _ _ _ rfl dX0_readInstruction_119)
noncomputable def f_As_readInstruction_L55 (v2 : Int32) (v3 : Nat) (v4 : Int32) (s : St) : Option ((Int32 × St) ⊕ ((Int32 × St) ⊕ (Int32 × St))) :=
  if isT v3 then
  (if (tl v3) ≤ v4 then
  some (.inr (.inl (v4, s)))
  else
  (f_Sc_readPiece s).bind fun q14 =>
  if v4 ≤ 0 then
  f_As_readInstruction_J99_1 v2 v3 v4 q14
  else
  if (q14.1 3 3) = 3 then
  ((f_Sc_readPiece q14).bind fun q24 =>
  f_As_readInstruction_J99_1 v2 v3 v4 q24)
  else
  (f_As_refusePiece q14).bind fun q26 =>
  some (.inr (.inr ((bN (q26.1)), q26.2))))
  else none
set_option maxHeartbeats 4000000 in
set_option maxRecDepth 100000 in
theorem t_As_readInstruction_L55 (G : GG) (hR : gR G = rmx 5 131) (hL : gL G = 5) (C : Cx SC G cX0_readInstruction RX0) {Acc : ((Int32 × St) ⊕ ((Int32 × St) ⊕ (Int32 × St))) → Prop}  (v2 : Int32) (v3 : Nat) (v4 : Int32) (s : St) (hb1 : ∀ (a4 : Int32) (t : St), Acc (.inl (a4, t)) → KK SC G 55 [(0, .ref (ad G 2)), (2, .int v2), (3, .ref (ad G v3)), (4, .int a4)] [] t) (hx1 : ∀ (a4 : Int32) (t : St), Acc (.inr (.inl (a4, t))) → KK SC G 126 [(0, .ref (ad G 2)), (2, .int v2), (3, .ref (ad G v3)), (4, .int a4)] [] t) (hr : ∀ v : (Int32 × St), Acc (.inr (.inr v)) → RtZ SC G cX0_readInstruction v.1 v.2) : JJ SC G Acc (f_As_readInstruction_L55 v2 v3 v4 s) 55 [(0, .ref (ad G 2)), (2, .int v2), (3, .ref (ad G v3)), (4, .int v4)] [] s := by
  unfold f_As_readInstruction_L55
  refine jr_iload C 3 rfl dX0_readInstruction_55 ?_
  refine jr_aload_n C 2 rfl rfl dX0_readInstruction_57 ?_
  refine jo_if (fun h12 => ?_)
  refine jr_strlen C h12 km_X0_51 (rk hR rfl) (Nat.le_of_ble_eq_true rfl) dX0_readInstruction_58 ?_
  refine jr_icmp_ge C (tgt := 126) dX0_readInstruction_61 (by decide) (fun h13 => ?_) (fun h13 => ?_)
  · refine jo_pos h13 ?_
    exact jr_end (fun h => hx1 v4 s h)
  refine jo_neg h13 ?_
  refine jr_aload_n C 0 rfl rfl dX0_readInstruction_64 ?_
  refine jr_getR C FX_0 0 oC_2.1 oC_2.2 ff_0_0.1 ff_0_0.2 rfl fl_X0_12 dX0_readInstruction_65 ?_
  refine jr_bind (fun q14 e15 => ?_)
  refine jr_callVV C FX_8 km_X0_106 oC_3.1 oC_3.2 (rk hR rfl) (c_Sc_readPiece (gl G) s e15) rfl rfl rfl (Nat.le_of_ble_eq_true rfl) dX0_readInstruction_68 ?_
  refine jr_iload C 3 rfl dX0_readInstruction_71 ?_
  refine jr_if_le C (tgt := 99) dX0_readInstruction_73 (by decide) (fun h16 => ?_) (fun h16 => ?_)
  · refine jo_pos h16 ?_
    exact t_As_readInstruction_J99_1 G hR hL C  v2 v3 v4 q14 hb1 hx1 hr
  refine jo_neg h16 ?_
  refine jr_aload_n C 0 rfl rfl dX0_readInstruction_76 ?_
  refine jr_getR C FX_0 0 oC_2.1 oC_2.2 ff_0_0.1 ff_0_0.2 rfl fl_X0_12 dX0_readInstruction_77 ?_
  refine jr_getI C FX_8 3 oC_3.1 oC_3.2 ff_8_3.1 ff_8_3.2 fl_X0_100 dX0_readInstruction_80 ?_
  refine jr_iconst C ic_3 dX0_readInstruction_83 ?_
  refine jr_icmp_eq C (tgt := 92) dX0_readInstruction_84 (by decide) (fun h23 => ?_) (fun h23 => ?_)
  · refine jo_pos h23 ?_
    refine jr_aload_n C 0 rfl rfl dX0_readInstruction_92 ?_
    refine jr_getR C FX_0 0 oC_2.1 oC_2.2 ff_0_0.1 ff_0_0.2 rfl fl_X0_12 dX0_readInstruction_93 ?_
    refine jr_bind (fun q24 e25 => ?_)
    refine jr_callVV C FX_8 km_X0_106 oC_3.1 oC_3.2 (rk hR rfl) (c_Sc_readPiece (gl G) q14 e25) rfl rfl rfl (Nat.le_of_ble_eq_true rfl) dX0_readInstruction_96 ?_
    exact t_As_readInstruction_J99_1 G hR hL C  v2 v3 v4 q24 hb1 hx1 hr
  refine jo_neg h23 ?_
  refine jr_aload_n C 0 rfl rfl dX0_readInstruction_87 ?_
  refine jr_bind (fun q26 e27 => ?_)
  refine jr_callVI C FX_0 km_X0_123 oC_2.1 oC_2.2 (rk hR rfl) (c_As_refusePiece (gl G) q14 e27) rfl rfl rfl (Nat.le_of_ble_eq_true rfl) dX0_readInstruction_88 ?_
  exact jr_end (fun h => hr ((bN (q26.1)), q26.2) h _ _ _ rfl dX0_readInstruction_91)
noncomputable def f_As_readInstruction (v1 : Int32) (s : St) : Option (Int32 × St) :=
  gP (s.2.2 2) fun p1 =>
  lt (s.1 p1 3) fun x3 =>
  if x3 < 200 then
  (gd x3 200 <|
  lt (uJ s 7 (x3 : Int32).toNatClampNeg 0) fun s5 =>
  gP (s5.2.2 2) fun p6 =>
  gd x3 200 <|
  lt (uI s5 (p6 + 1) (x3 : Int32).toNatClampNeg v1) fun s8 =>
  gP (s8.2.2 2) fun p9 =>
  gd x3 200 <|
  lt (uI s8 (p9 + 3) (x3 : Int32).toNatClampNeg (bN 0)) fun s11 =>
  (wh (fun a : (Int32 × St) => f_As_readInstruction_L55 x3 (f_Op_shapeOf v1) a.1 a.2) (0, s11)).bind (Sum.elim (fun b28 =>
  (f_Sc_readPiece (b28.2)).bind fun q29 =>
  if (q29.1 3 3) = 0 then
  (gP (q29.2.2 2) fun p32 =>
  lt (uI q29 p32 3 ((q29.1 p32 3) + 1)) fun s34 =>
  some (1, s34))
  else
  (f_As_refusePiece q29).bind fun q35 =>
  some ((bN (q35.1)), q35.2)) some))
  else
  (f_As_refusePiece s).bind fun q37 =>
  some ((bN (q37.1)), q37.2)
set_option maxHeartbeats 4000000 in
set_option maxRecDepth 100000 in
theorem t_As_readInstruction (G : GG) (hR : gR G = rmx 5 131) (hL : gL G = 5) (C : Cx SC G cX0_readInstruction RX0) {Acc : (Int32 × St) → Prop}  (v1 : Int32) (s : St) (hr : ∀ v : (Int32 × St), Acc v → RtZ SC G cX0_readInstruction v.1 v.2) : JJ SC G Acc (f_As_readInstruction v1 s) 0 [(0, .ref (ad G 2)), (1, .int v1)] [] s := by
  unfold f_As_readInstruction
  refine jr_aload_n C 0 rfl rfl dX0_readInstruction_0 ?_
  refine jr_getP C FX_0 9 oC_2.1 oC_2.2 ff_0_9.1 ff_0_9.2 (fun hp => rX_p rfl (pne hp)) fl_X0_70 dX0_readInstruction_1 (fun p1 h2 => ?_)
  refine jr_getI C FX_7 3 (oP_0 h2).1 (oP_0 h2).2 ff_7_3.1 ff_7_3.2 fl_X0_133 dX0_readInstruction_4 ?_
  refine jr_ltI (fun x3 => ?_)
  refine jr_istore_n C (lv' := [(2, .int x3), (0, .ref (ad G 2)), (1, .int v1)]) (ltL hL rfl) rfl rfl dX0_readInstruction_7 ?_
  refine jr_iload_n C 0 rfl rfl dX0_readInstruction_8 ?_
  refine jr_sipush C sp_200 dX0_readInstruction_9 ?_
  refine jr_icmp_lt C (tgt := 20) dX0_readInstruction_12 (by decide) (fun h4 => ?_) (fun h4 => ?_)
  · refine jo_pos h4 ?_
    refine jr_iload_n C 2 rfl rfl dX0_readInstruction_20 ?_
    refine jr_callSA C km_X0_136 (rk hR rfl) (c_Op_shapeOf (gl G) v1 s) rfl rfl rfl (Nat.le_of_ble_eq_true rfl) dX0_readInstruction_21 ?_
    refine jr_astore_n C (lv' := [(3, .ref (ad G (f_Op_shapeOf v1))), (2, .int x3), (0, .ref (ad G 2)), (1, .int v1)]) (ltL hL rfl) rfl rfl dX0_readInstruction_24 ?_
    refine jr_aload_n C 2 rfl rfl dX0_readInstruction_25 ?_
    refine jr_getR C FX_0 5 oC_2.1 oC_2.2 ff_0_5.1 ff_0_5.2 rfl fl_X0_33 dX0_readInstruction_26 ?_
    refine jr_iload_n C 1 rfl rfl dX0_readInstruction_29 ?_
    refine jr_lconst C (v := 0) (by decide) dX0_readInstruction_30 ?_
    refine jr_last C oC_7.1 oC_7.2.1 oC_7.2.2 dX0_readInstruction_31 (jr_ltS fun s5 => ?_)
    refine jr_aload_n C 2 rfl rfl dX0_readInstruction_32 ?_
    refine jr_getP C FX_0 9 oC_2.1 oC_2.2 ff_0_9.1 ff_0_9.2 (fun hp => rX_p rfl (pne hp)) fl_X0_70 dX0_readInstruction_33 (fun p6 h7 => ?_)
    refine jr_getR C FX_7 0 (oP_0 h7).1 (oP_0 h7).2 ff_7_0.1 ff_7_0.2 (rP_0_0 _ h7) fl_X0_140 dX0_readInstruction_36 ?_
    refine jr_iload_n C 1 rfl rfl dX0_readInstruction_39 ?_
    refine jr_iload_n C 3 rfl rfl dX0_readInstruction_40 ?_
    refine jr_iast C (oP_1 h7).1 (oP_1 h7).2.1 (oP_1 h7).2.2 dX0_readInstruction_41 (jr_ltS fun s8 => ?_)
    refine jr_aload_n C 2 rfl rfl dX0_readInstruction_42 ?_
    refine jr_getP C FX_0 9 oC_2.1 oC_2.2 ff_0_9.1 ff_0_9.2 (fun hp => rX_p rfl (pne hp)) fl_X0_70 dX0_readInstruction_43 (fun p9 h10 => ?_)
    refine jr_getR C FX_7 2 (oP_0 h10).1 (oP_0 h10).2 ff_7_2.1 ff_7_2.2 (rP_0_2 _ h10) fl_X0_143 dX0_readInstruction_46 ?_
    refine jr_iload_n C 1 rfl rfl dX0_readInstruction_49 ?_
    refine jr_iconst C ic_0 dX0_readInstruction_50 ?_
    refine jr_zast C (oP_3 h10).1 (oP_3 h10).2.1 (oP_3 h10).2.2 dX0_readInstruction_51 (jr_ltS fun s11 => ?_)
    refine jr_iconst C ic_0 dX0_readInstruction_52 ?_
    refine jr_istore C (lv' := [(4, .int 0), (3, .ref (ad G (f_Op_shapeOf v1))), (2, .int x3), (0, .ref (ad G 2)), (1, .int v1)]) (ltL hL rfl) rfl dX0_readInstruction_53 ?_
    refine jr_lv [3, 2, 1, 0] rfl ?_
    refine jr_loopE (pc := 55) (pcx := 126) (f := fun a : (Int32 × St) => f_As_readInstruction_L55 x3 (f_Op_shapeOf v1) a.1 a.2) (fun a : (Int32 × St) => [(0, .ref (ad G 2)), (2, .int x3), (3, .ref (ad G (f_Op_shapeOf v1))), (4, .int (a.1))]) (fun a : (Int32 × St) => a.2) (0, s11) (fun a => t_As_readInstruction_L55 G hR hL C  x3 (f_Op_shapeOf v1) a.1 a.2 (fun _ _ h => h) (fun _ _ h => h) hr) (fun b28 => ?_)
    refine jr_aload_n C 0 rfl rfl dX0_readInstruction_126 ?_
    refine jr_getR C FX_0 0 oC_2.1 oC_2.2 ff_0_0.1 ff_0_0.2 rfl fl_X0_12 dX0_readInstruction_127 ?_
    refine jr_bind (fun q29 e30 => ?_)
    refine jr_callVV C FX_8 km_X0_106 oC_3.1 oC_3.2 (rk hR rfl) (c_Sc_readPiece (gl G) (b28.2) e30) rfl rfl rfl (Nat.le_of_ble_eq_true rfl) dX0_readInstruction_130 ?_
    refine jr_aload_n C 0 rfl rfl dX0_readInstruction_133 ?_
    refine jr_getR C FX_0 0 oC_2.1 oC_2.2 ff_0_0.1 ff_0_0.2 rfl fl_X0_12 dX0_readInstruction_134 ?_
    refine jr_getI C FX_8 3 oC_3.1 oC_3.2 ff_8_3.1 ff_8_3.2 fl_X0_100 dX0_readInstruction_137 ?_
    refine jr_if_eq C (tgt := 148) dX0_readInstruction_140 (by decide) (fun h31 => ?_) (fun h31 => ?_)
    · refine jo_pos h31 ?_
      refine jr_aload_n C 0 rfl rfl dX0_readInstruction_148 ?_
      refine jr_getP C FX_0 9 oC_2.1 oC_2.2 ff_0_9.1 ff_0_9.2 (fun hp => rX_p rfl (pne hp)) fl_X0_70 dX0_readInstruction_149 (fun p32 h33 => ?_)
      refine jr_dup C rfl dX0_readInstruction_152 ?_
      refine jr_getI C FX_7 3 (oP_0 h33).1 (oP_0 h33).2 ff_7_3.1 ff_7_3.2 fl_X0_133 dX0_readInstruction_153 ?_
      refine jr_iconst C ic_1 dX0_readInstruction_156 ?_
      refine jr_iadd C dX0_readInstruction_157 ?_
      refine jr_putI C FX_7 3 (oP_0 h33).1 (oP_0 h33).2 ff_7_3.1 ff_7_3.2 rfl rfl fl_X0_133 dX0_readInstruction_158 (jr_ltS fun s34 => ?_)
      refine jr_iconst C ic_1 dX0_readInstruction_161 ?_
      exact jr_end (fun h => hr (1, s34) h _ _ _ bN1 dX0_readInstruction_162)
    refine jo_neg h31 ?_
    refine jr_aload_n C 0 rfl rfl dX0_readInstruction_143 ?_
    refine jr_bind (fun q35 e36 => ?_)
    refine jr_callVI C FX_0 km_X0_123 oC_2.1 oC_2.2 (rk hR rfl) (c_As_refusePiece (gl G) q29 e36) rfl rfl rfl (Nat.le_of_ble_eq_true rfl) dX0_readInstruction_144 ?_
    exact jr_end (fun h => hr ((bN (q35.1)), q35.2) h _ _ _ rfl dX0_readInstruction_147)
  refine jo_neg h4 ?_
  refine jr_aload_n C 1 rfl rfl dX0_readInstruction_15 ?_
  refine jr_bind (fun q37 e38 => ?_)
  refine jr_callVI C FX_0 km_X0_123 oC_2.1 oC_2.2 (rk hR rfl) (c_As_refusePiece (gl G) s e38) rfl rfl rfl (Nat.le_of_ble_eq_true rfl) dX0_readInstruction_16 ?_
  exact jr_end (fun h => hr ((bN (q37.1)), q37.2) h _ _ _ rfl dX0_readInstruction_19)
set_option maxRecDepth 100000 in
theorem c_As_readInstruction (l : Launch)  (v1 : Int32) (s : St) {q : (Int32 × St)} (h : f_As_readInstruction v1 s = some q) : CT SC l yX0_readInstruction cX0_readInstruction 5 (some .boolean) 5 131 (fun a => [.ref (a 2), .int v1]) s q.2 (fun _ => some (.int q.1)) :=
  ct_Z okX_C (by decide) (fun _ => Nat.le_of_ble_eq_true rfl) (fun G hl hR hL C hr => t_As_readInstruction G hR hL C (Acc := fun v => v = q)  v1 s (fun v hv => by rw [hv]; exact hr) ⟨_, h, rfl⟩)
noncomputable def f_As_readLine_J68 (w0 : Int32) (s : St) : Option (Int32 × St) :=
  if w0 = (-1) then
  ((f_As_refusePiece s).bind fun q11 =>
  some ((bN (q11.1)), q11.2))
  else
  (f_As_readInstruction w0 s).bind fun q9 =>
  some ((bN (q9.1)), q9.2)
set_option maxHeartbeats 4000000 in
set_option maxRecDepth 100000 in
theorem t_As_readLine_J68 (G : GG) (hR : gR G = rmx 6 155) (hL : gL G = 2) (C : Cx SC G cX0_readLine RX0) {Acc : (Int32 × St) → Prop}  (w0 : Int32) (s : St) (hr : ∀ v : (Int32 × St), Acc v → RtZ SC G cX0_readLine v.1 v.2) : JJ SC G Acc (f_As_readLine_J68 w0 s) 68 [(0, .ref (ad G 2))] [.int w0] s := by
  unfold f_As_readLine_J68
  refine jr_istore_n C (lv' := [(1, .int w0), (0, .ref (ad G 2))]) (ltL hL rfl) rfl rfl dX0_readLine_68 ?_
  refine jr_iload_n C 0 rfl rfl dX0_readLine_69 ?_
  refine jr_iconst C ic_m1 dX0_readLine_70 ?_
  refine jr_icmp_ne C (tgt := 81) dX0_readLine_71 (by decide) (fun h8 => ?_) (fun h8 => ?_)
  · refine jo_neg h8 ?_
    refine jr_aload_n C 1 rfl rfl dX0_readLine_81 ?_
    refine jr_iload_n C 0 rfl rfl dX0_readLine_82 ?_
    refine jr_bind (fun q9 e10 => ?_)
    refine jr_callVI C FX_0 km_X0_126 oC_2.1 oC_2.2 (rk hR rfl) (c_As_readInstruction (gl G) w0 s e10) rfl rfl rfl (Nat.le_of_ble_eq_true rfl) dX0_readLine_83 ?_
    exact jr_end (fun h => hr ((bN (q9.1)), q9.2) h _ _ _ rfl dX0_readLine_86)
  refine jo_pos h8 ?_
  refine jr_aload_n C 1 rfl rfl dX0_readLine_74 ?_
  refine jr_bind (fun q11 e12 => ?_)
  refine jr_callVI C FX_0 km_X0_123 oC_2.1 oC_2.2 (rk hR rfl) (c_As_refusePiece (gl G) s e12) rfl rfl rfl (Nat.le_of_ble_eq_true rfl) dX0_readLine_75 ?_
  refine jr_goto C (tgt := 86) dX0_readLine_78 (by decide) ?_
  exact jr_end (fun h => hr ((bN (q11.1)), q11.2) h _ _ _ rfl dX0_readLine_86)
noncomputable def f_As_readLine_J30  (s : St) : Option (Int32 × St) :=
  if (s.1 3 3) = 0 then
  some (1, s)
  else
  if (s.1 3 3) = 1 then
  ((f_As_instruction (s.2.1 3 5) s).bind fun q13 =>
  f_As_readLine_J68 q13 s)
  else
  f_As_readLine_J68 (-1) s
set_option maxHeartbeats 4000000 in
set_option maxRecDepth 100000 in
theorem t_As_readLine_J30 (G : GG) (hR : gR G = rmx 6 155) (hL : gL G = 2) (C : Cx SC G cX0_readLine RX0) {Acc : (Int32 × St) → Prop}   (s : St) (hr : ∀ v : (Int32 × St), Acc v → RtZ SC G cX0_readLine v.1 v.2) : JJ SC G Acc (f_As_readLine_J30 s) 30 [(0, .ref (ad G 2))] [] s := by
  unfold f_As_readLine_J30
  refine jr_aload_n C 0 rfl rfl dX0_readLine_30 ?_
  refine jr_getR C FX_0 0 oC_2.1 oC_2.2 ff_0_0.1 ff_0_0.2 rfl fl_X0_12 dX0_readLine_31 ?_
  refine jr_getI C FX_8 3 oC_3.1 oC_3.2 ff_8_3.1 ff_8_3.2 fl_X0_100 dX0_readLine_34 ?_
  refine jr_if_ne C (tgt := 42) dX0_readLine_37 (by decide) (fun h6 => ?_) (fun h6 => ?_)
  · refine jo_neg h6 ?_
    refine jr_aload_n C 0 rfl rfl dX0_readLine_42 ?_
    refine jr_getR C FX_0 0 oC_2.1 oC_2.2 ff_0_0.1 ff_0_0.2 rfl fl_X0_12 dX0_readLine_43 ?_
    refine jr_getI C FX_8 3 oC_3.1 oC_3.2 ff_8_3.1 ff_8_3.2 fl_X0_100 dX0_readLine_46 ?_
    refine jr_iconst C ic_1 dX0_readLine_49 ?_
    refine jr_icmp_ne C (tgt := 67) dX0_readLine_50 (by decide) (fun h7 => ?_) (fun h7 => ?_)
    · refine jo_neg h7 ?_
      refine jr_iconst C ic_m1 dX0_readLine_67 ?_
      exact t_As_readLine_J68 G hR hL C  (-1) s hr
    refine jo_pos h7 ?_
    refine jr_aload_n C 0 rfl rfl dX0_readLine_53 ?_
    refine jr_aload_n C 0 rfl rfl dX0_readLine_54 ?_
    refine jr_getR C FX_0 0 oC_2.1 oC_2.2 ff_0_0.1 ff_0_0.2 rfl fl_X0_12 dX0_readLine_55 ?_
    refine jr_getJ C FX_8 5 oC_3.1 oC_3.2 ff_8_5.1 ff_8_5.2 fl_X0_115 dX0_readLine_58 ?_
    refine jr_bind (fun q13 e14 => ?_)
    refine jr_callVI C FX_0 km_X0_119 oC_2.1 oC_2.2 (rk hR rfl) (c_As_instruction (gl G) (s.2.1 3 5) s e14) rfl rfl rfl (Nat.le_of_ble_eq_true rfl) dX0_readLine_61 ?_
    refine jr_goto C (tgt := 68) dX0_readLine_64 (by decide) ?_
    exact t_As_readLine_J68 G hR hL C  q13 s hr
  refine jo_pos h6 ?_
  refine jr_iconst C ic_1 dX0_readLine_40 ?_
  exact jr_end (fun h => hr (1, s) h _ _ _ bN1 dX0_readLine_41)
noncomputable def f_As_readLine  (s : St) : Option (Int32 × St) :=
  (f_Sc_readPiece s).bind fun q1 =>
  (f_As_isLabel q1).bind fun q3 =>
  if q3 = 0 then
  f_As_readLine_J30 q1
  else
  (f_As_readLabel q1).bind fun q15 =>
  if q15.1 = 0 then
  some (0, q15.2)
  else
  (f_Sc_readPiece (q15.2)).bind fun q18 =>
  f_As_readLine_J30 q18
set_option maxHeartbeats 4000000 in
set_option maxRecDepth 100000 in
theorem t_As_readLine (G : GG) (hR : gR G = rmx 6 155) (hL : gL G = 2) (C : Cx SC G cX0_readLine RX0) {Acc : (Int32 × St) → Prop}   (s : St) (hr : ∀ v : (Int32 × St), Acc v → RtZ SC G cX0_readLine v.1 v.2) : JJ SC G Acc (f_As_readLine s) 0 [(0, .ref (ad G 2))] [] s := by
  unfold f_As_readLine
  refine jr_aload_n C 0 rfl rfl dX0_readLine_0 ?_
  refine jr_getR C FX_0 0 oC_2.1 oC_2.2 ff_0_0.1 ff_0_0.2 rfl fl_X0_12 dX0_readLine_1 ?_
  refine jr_bind (fun q1 e2 => ?_)
  refine jr_callVV C FX_8 km_X0_106 oC_3.1 oC_3.2 (rk hR rfl) (c_Sc_readPiece (gl G) s e2) rfl rfl rfl (Nat.le_of_ble_eq_true rfl) dX0_readLine_4 ?_
  refine jr_aload_n C 0 rfl rfl dX0_readLine_7 ?_
  refine jr_bind (fun q3 e4 => ?_)
  refine jr_callVI C FX_0 km_X0_109 oC_2.1 oC_2.2 (rk hR rfl) (c_As_isLabel (gl G) q1 e4) rfl rfl rfl (Nat.le_of_ble_eq_true rfl) dX0_readLine_8 ?_
  refine jr_if_eq C (tgt := 30) dX0_readLine_11 (by decide) (fun h5 => ?_) (fun h5 => ?_)
  · refine jo_pos h5 ?_
    exact t_As_readLine_J30 G hR hL C   q1 hr
  refine jo_neg h5 ?_
  refine jr_aload_n C 0 rfl rfl dX0_readLine_14 ?_
  refine jr_bind (fun q15 e16 => ?_)
  refine jr_callVI C FX_0 km_X0_112 oC_2.1 oC_2.2 (rk hR rfl) (c_As_readLabel (gl G) q1 e16) rfl rfl rfl (Nat.le_of_ble_eq_true rfl) dX0_readLine_15 ?_
  refine jr_if_ne C (tgt := 23) dX0_readLine_18 (by decide) (fun h17 => ?_) (fun h17 => ?_)
  · refine jo_neg h17 ?_
    refine jr_aload_n C 0 rfl rfl dX0_readLine_23 ?_
    refine jr_getR C FX_0 0 oC_2.1 oC_2.2 ff_0_0.1 ff_0_0.2 rfl fl_X0_12 dX0_readLine_24 ?_
    refine jr_bind (fun q18 e19 => ?_)
    refine jr_callVV C FX_8 km_X0_106 oC_3.1 oC_3.2 (rk hR rfl) (c_Sc_readPiece (gl G) (q15.2) e19) rfl rfl rfl (Nat.le_of_ble_eq_true rfl) dX0_readLine_27 ?_
    exact t_As_readLine_J30 G hR hL C   q18 hr
  refine jo_pos h17 ?_
  refine jr_iconst C ic_0 dX0_readLine_21 ?_
  exact jr_end (fun h => hr (0, q15.2) h _ _ _ bN0 dX0_readLine_22)
set_option maxRecDepth 100000 in
theorem c_As_readLine (l : Launch)   (s : St) {q : (Int32 × St)} (h : f_As_readLine s = some q) : CT SC l yX0_readLine cX0_readLine 2 (some .boolean) 6 155 (fun a => [.ref (a 2)]) s q.2 (fun _ => some (.int q.1)) :=
  ct_Z okX_C (by decide) (fun _ => Nat.le_of_ble_eq_true rfl) (fun G hl hR hL C hr => t_As_readLine G hR hL C (Acc := fun v => v = q)   s (fun v hv => by rw [hv]; exact hr) ⟨_, h, rfl⟩)
noncomputable def f_As_resolveLabels_J90_1 (v1 : Int32) (s : St) : Option ((Int32 × St) ⊕ ((Int32 × St) ⊕ (Int32 × St))) :=
  some (.inl ((v1 + 1), s))
set_option maxHeartbeats 4000000 in
set_option maxRecDepth 100000 in
theorem t_As_resolveLabels_J90_1 (G : GG) (hR : gR G = rmx 2 60) (hL : gL G = 3) (C : Cx SC G cX0_resolveLabels RX0) {Acc : ((Int32 × St) ⊕ ((Int32 × St) ⊕ (Int32 × St))) → Prop}  (v1 : Int32) (s : St) (hb1 : ∀ (a1 : Int32) (t : St), Acc (.inl (a1, t)) → KK SC G 2 [(0, .ref (ad G 2)), (1, .int a1)] [] t) (hx1 : ∀ (a1 : Int32) (t : St), Acc (.inr (.inl (a1, t))) → KK SC G 96 [(0, .ref (ad G 2)), (1, .int a1)] [] t) (hr : ∀ v : (Int32 × St), Acc (.inr (.inr v)) → RtZ SC G cX0_resolveLabels v.1 v.2) : JJ SC G Acc (f_As_resolveLabels_J90_1 v1 s) 90 [(0, .ref (ad G 2)), (1, .int v1)] [] s := by
  unfold f_As_resolveLabels_J90_1
  refine jr_iinc C 1 rfl ii_1 (lv' := [(1, .int (v1 + 1)), (0, .ref (ad G 2))]) (ltL hL rfl) rfl dX0_resolveLabels_90 ?_
  refine jr_goto C (tgt := 2) dX0_resolveLabels_93 (by decide) ?_
  refine jr_lv [1, 0] rfl ?_
  exact jr_end (fun h => hb1 (v1 + 1) s h)
noncomputable def f_As_resolveLabels_L2 (v1 : Int32) (s : St) : Option ((Int32 × St) ⊕ ((Int32 × St) ⊕ (Int32 × St))) :=
  gP (s.2.2 2) fun p1 =>
  if (s.1 p1 3) ≤ v1 then
  some (.inr (.inl (v1, s)))
  else
  gd v1 200 <|
  if (lg_cmp (s.2.1 7 (v1 : Int32).toNatClampNeg) 0) = 0 then
  f_As_resolveLabels_J90_1 v1 s
  else
  gd v1 200 <|
  (f_As_findLabel (s.2.1 7 (v1 : Int32).toNatClampNeg) s).bind fun q5 =>
  if q5 = (-1) then
  (gd v1 200 <|
  gd v1 200 <|
  (f_As_refuse 4 (s.1 8 (v1 : Int32).toNatClampNeg) (s.1 9 (v1 : Int32).toNatClampNeg) s).bind fun q15 =>
  some (.inr (.inr (0, q15))))
  else
  gP (s.2.2 2) fun p8 =>
  gP (s.2.2 2) fun p10 =>
  gd v1 200 <|
  if isT (f_Op_shapeOf (s.1 (p10 + 1) (v1 : Int32).toNatClampNeg)) then
  (gd q5 200 <|
  (f_Pr_setOperand p8 v1 ((tl (f_Op_shapeOf (s.1 (p10 + 1) (v1 : Int32).toNatClampNeg))) - 1) (s.1 6 (q5 : Int32).toNatClampNeg) s).bind fun q13 =>
  f_As_resolveLabels_J90_1 v1 q13)
  else none
set_option maxHeartbeats 4000000 in
set_option maxRecDepth 100000 in
theorem t_As_resolveLabels_L2 (G : GG) (hR : gR G = rmx 2 60) (hL : gL G = 3) (C : Cx SC G cX0_resolveLabels RX0) {Acc : ((Int32 × St) ⊕ ((Int32 × St) ⊕ (Int32 × St))) → Prop}  (v1 : Int32) (s : St) (hb1 : ∀ (a1 : Int32) (t : St), Acc (.inl (a1, t)) → KK SC G 2 [(0, .ref (ad G 2)), (1, .int a1)] [] t) (hx1 : ∀ (a1 : Int32) (t : St), Acc (.inr (.inl (a1, t))) → KK SC G 96 [(0, .ref (ad G 2)), (1, .int a1)] [] t) (hr : ∀ v : (Int32 × St), Acc (.inr (.inr v)) → RtZ SC G cX0_resolveLabels v.1 v.2) : JJ SC G Acc (f_As_resolveLabels_L2 v1 s) 2 [(0, .ref (ad G 2)), (1, .int v1)] [] s := by
  unfold f_As_resolveLabels_L2
  refine jr_iload_n C 1 rfl rfl dX0_resolveLabels_2 ?_
  refine jr_aload_n C 0 rfl rfl dX0_resolveLabels_3 ?_
  refine jr_getP C FX_0 9 oC_2.1 oC_2.2 ff_0_9.1 ff_0_9.2 (fun hp => rX_p rfl (pne hp)) fl_X0_70 dX0_resolveLabels_4 (fun p1 h2 => ?_)
  refine jr_getI C FX_7 3 (oP_0 h2).1 (oP_0 h2).2 ff_7_3.1 ff_7_3.2 fl_X0_133 dX0_resolveLabels_7 ?_
  refine jr_icmp_ge C (tgt := 96) dX0_resolveLabels_10 (by decide) (fun h3 => ?_) (fun h3 => ?_)
  · refine jo_pos h3 ?_
    exact jr_end (fun h => hx1 v1 s h)
  refine jo_neg h3 ?_
  refine jr_aload_n C 0 rfl rfl dX0_resolveLabels_13 ?_
  refine jr_getR C FX_0 5 oC_2.1 oC_2.2 ff_0_5.1 ff_0_5.2 rfl fl_X0_33 dX0_resolveLabels_14 ?_
  refine jr_iload_n C 1 rfl rfl dX0_resolveLabels_17 ?_
  refine jr_lald C oC_7.1 oC_7.2.1 oC_7.2.2 dX0_resolveLabels_18 ?_
  refine jr_lconst C (v := 0) (by decide) dX0_resolveLabels_19 ?_
  refine jr_lcmp C dX0_resolveLabels_20 ?_
  refine jr_if_eq C (tgt := 90) dX0_resolveLabels_21 (by decide) (fun h4 => ?_) (fun h4 => ?_)
  · refine jo_pos h4 ?_
    exact t_As_resolveLabels_J90_1 G hR hL C  v1 s hb1 hx1 hr
  refine jo_neg h4 ?_
  refine jr_aload_n C 0 rfl rfl dX0_resolveLabels_24 ?_
  refine jr_aload_n C 0 rfl rfl dX0_resolveLabels_25 ?_
  refine jr_getR C FX_0 5 oC_2.1 oC_2.2 ff_0_5.1 ff_0_5.2 rfl fl_X0_33 dX0_resolveLabels_26 ?_
  refine jr_iload_n C 1 rfl rfl dX0_resolveLabels_29 ?_
  refine jr_lald C oC_7.1 oC_7.2.1 oC_7.2.2 dX0_resolveLabels_30 ?_
  refine jr_bind (fun q5 e6 => ?_)
  refine jr_callVI C FX_0 km_X0_130 oC_2.1 oC_2.2 (rk hR rfl) (c_As_findLabel (gl G) (s.2.1 7 (v1 : Int32).toNatClampNeg) s e6) rfl rfl rfl (Nat.le_of_ble_eq_true rfl) dX0_resolveLabels_31 ?_
  refine jr_istore_n C (lv' := [(2, .int q5), (0, .ref (ad G 2)), (1, .int v1)]) (ltL hL rfl) rfl rfl dX0_resolveLabels_34 ?_
  refine jr_iload_n C 0 rfl rfl dX0_resolveLabels_35 ?_
  refine jr_iconst C ic_m1 dX0_resolveLabels_36 ?_
  refine jr_icmp_ne C (tgt := 59) dX0_resolveLabels_37 (by decide) (fun h7 => ?_) (fun h7 => ?_)
  · refine jo_neg h7 ?_
    refine jr_aload_n C 1 rfl rfl dX0_resolveLabels_59 ?_
    refine jr_getP C FX_0 9 oC_2.1 oC_2.2 ff_0_9.1 ff_0_9.2 (fun hp => rX_p rfl (pne hp)) fl_X0_70 dX0_resolveLabels_60 (fun p8 h9 => ?_)
    refine jr_iload_n C 2 rfl rfl dX0_resolveLabels_63 ?_
    refine jr_aload_n C 1 rfl rfl dX0_resolveLabels_64 ?_
    refine jr_getP C FX_0 9 oC_2.1 oC_2.2 ff_0_9.1 ff_0_9.2 (fun hp => rX_p rfl (pne hp)) fl_X0_70 dX0_resolveLabels_65 (fun p10 h11 => ?_)
    refine jr_getR C FX_7 0 (oP_0 h11).1 (oP_0 h11).2 ff_7_0.1 ff_7_0.2 (rP_0_0 _ h11) fl_X0_140 dX0_resolveLabels_68 ?_
    refine jr_iload_n C 2 rfl rfl dX0_resolveLabels_71 ?_
    refine jr_iald C (oP_1 h11).1 (oP_1 h11).2.1 (oP_1 h11).2.2 dX0_resolveLabels_72 ?_
    refine jr_callSA C km_X0_136 (rk hR rfl) (c_Op_shapeOf (gl G) (s.1 (p10 + 1) (v1 : Int32).toNatClampNeg) s) rfl rfl rfl (Nat.le_of_ble_eq_true rfl) dX0_resolveLabels_73 ?_
    refine jo_if (fun h12 => ?_)
    refine jr_strlen C h12 km_X0_51 (rk hR rfl) (Nat.le_of_ble_eq_true rfl) dX0_resolveLabels_76 ?_
    refine jr_iconst C ic_1 dX0_resolveLabels_79 ?_
    refine jr_isub C dX0_resolveLabels_80 ?_
    refine jr_aload_n C 1 rfl rfl dX0_resolveLabels_81 ?_
    refine jr_getR C FX_0 3 oC_2.1 oC_2.2 ff_0_3.1 ff_0_3.2 rfl fl_X0_27 dX0_resolveLabels_82 ?_
    refine jr_iload_n C 0 rfl rfl dX0_resolveLabels_85 ?_
    refine jr_iald C oC_6.1 oC_6.2.1 oC_6.2.2 dX0_resolveLabels_86 ?_
    refine jr_bind (fun q13 e14 => ?_)
    refine jr_callVV C FX_7 km_X0_154 (oP_0 h9).1 (oP_0 h9).2 (rk hR rfl) (c_Pr_setOperand (gl G) h9 v1 ((tl (f_Op_shapeOf (s.1 (p10 + 1) (v1 : Int32).toNatClampNeg))) - 1) (s.1 6 (q5 : Int32).toNatClampNeg) s e14) rfl rfl rfl (Nat.le_of_ble_eq_true rfl) dX0_resolveLabels_87 ?_
    refine jr_lv [1, 2] rfl ?_
    exact t_As_resolveLabels_J90_1 G hR hL C  v1 q13 hb1 hx1 hr
  refine jo_pos h7 ?_
  refine jr_aload_n C 1 rfl rfl dX0_resolveLabels_40 ?_
  refine jr_iconst C ic_4 dX0_resolveLabels_41 ?_
  refine jr_aload_n C 1 rfl rfl dX0_resolveLabels_42 ?_
  refine jr_getR C FX_0 6 oC_2.1 oC_2.2 ff_0_6.1 ff_0_6.2 rfl fl_X0_36 dX0_resolveLabels_43 ?_
  refine jr_iload_n C 2 rfl rfl dX0_resolveLabels_46 ?_
  refine jr_iald C oC_8.1 oC_8.2.1 oC_8.2.2 dX0_resolveLabels_47 ?_
  refine jr_aload_n C 1 rfl rfl dX0_resolveLabels_48 ?_
  refine jr_getR C FX_0 7 oC_2.1 oC_2.2 ff_0_7.1 ff_0_7.2 rfl fl_X0_39 dX0_resolveLabels_49 ?_
  refine jr_iload_n C 2 rfl rfl dX0_resolveLabels_52 ?_
  refine jr_iald C oC_9.1 oC_9.2.1 oC_9.2.2 dX0_resolveLabels_53 ?_
  refine jr_bind (fun q15 e16 => ?_)
  refine jr_callVV C FX_0 km_X0_96 oC_2.1 oC_2.2 (rk hR rfl) (c_As_refuse (gl G) 4 (s.1 8 (v1 : Int32).toNatClampNeg) (s.1 9 (v1 : Int32).toNatClampNeg) s e16) rfl rfl rfl (Nat.le_of_ble_eq_true rfl) dX0_resolveLabels_54 ?_
  refine jr_iconst C ic_0 dX0_resolveLabels_57 ?_
  exact jr_end (fun h => hr (0, q15) h _ _ _ bN0 dX0_resolveLabels_58)
noncomputable def f_As_resolveLabels  (s : St) : Option (Int32 × St) :=
  (wh (fun a : (Int32 × St) => f_As_resolveLabels_L2 a.1 a.2) (0, s)).bind (Sum.elim (fun b17 =>
  some (1, b17.2)) some)
set_option maxHeartbeats 4000000 in
set_option maxRecDepth 100000 in
theorem t_As_resolveLabels (G : GG) (hR : gR G = rmx 2 60) (hL : gL G = 3) (C : Cx SC G cX0_resolveLabels RX0) {Acc : (Int32 × St) → Prop}   (s : St) (hr : ∀ v : (Int32 × St), Acc v → RtZ SC G cX0_resolveLabels v.1 v.2) : JJ SC G Acc (f_As_resolveLabels s) 0 [(0, .ref (ad G 2))] [] s := by
  unfold f_As_resolveLabels
  refine jr_iconst C ic_0 dX0_resolveLabels_0 ?_
  refine jr_istore_n C (lv' := [(1, .int 0), (0, .ref (ad G 2))]) (ltL hL rfl) rfl rfl dX0_resolveLabels_1 ?_
  refine jr_lv [1, 0] rfl ?_
  refine jr_loopE (pc := 2) (pcx := 96) (f := fun a : (Int32 × St) => f_As_resolveLabels_L2 a.1 a.2) (fun a : (Int32 × St) => [(0, .ref (ad G 2)), (1, .int (a.1))]) (fun a : (Int32 × St) => a.2) (0, s) (fun a => t_As_resolveLabels_L2 G hR hL C  a.1 a.2 (fun _ _ h => h) (fun _ _ h => h) hr) (fun b17 => ?_)
  refine jr_iconst C ic_1 dX0_resolveLabels_96 ?_
  exact jr_end (fun h => hr (1, b17.2) h _ _ _ bN1 dX0_resolveLabels_97)
set_option maxRecDepth 100000 in
theorem c_As_resolveLabels (l : Launch)   (s : St) {q : (Int32 × St)} (h : f_As_resolveLabels s = some q) : CT SC l yX0_resolveLabels cX0_resolveLabels 3 (some .boolean) 2 60 (fun a => [.ref (a 2)]) s q.2 (fun _ => some (.int q.1)) :=
  ct_Z okX_C (by decide) (fun _ => Nat.le_of_ble_eq_true rfl) (fun G hl hR hL C hr => t_As_resolveLabels G hR hL C (Acc := fun v => v = q)   s (fun v hv => by rw [hv]; exact hr) ⟨_, h, rfl⟩)
noncomputable def f_As_translate_L51 (v2 : Int32) (v4 : Int32) (s : St) : Option ((Int32 × St) ⊕ ((Int32 × St) ⊕ (Int32 × St))) :=
  if v2 ≤ v4 then
  some (.inr (.inl (v4, s)))
  else
  if 200 ≤ (s.1 2 8) then
  some (.inr (.inl (v4, s)))
  else
  (f_As_endOfLine v4 v2 s).bind fun q16 =>
  lt (uI s 2 8 ((s.1 2 8) + 1)) fun s18 =>
  (f_Sc_openLine v4 q16 s18).bind fun q19 =>
  (f_As_readLine q19).bind fun q21 =>
  if q21.1 = 0 then
  some (.inr (.inr (0, q21.2)))
  else
  lt (q16 + 1) fun x24 =>
  some (.inl (x24, q21.2))
set_option maxHeartbeats 4000000 in
set_option maxRecDepth 100000 in
theorem t_As_translate_L51 (G : GG) (hR : gR G = rmx 7 176) (hL : gL G = 6) (C : Cx SC G cX0_translate RX0) {Acc : ((Int32 × St) ⊕ ((Int32 × St) ⊕ (Int32 × St))) → Prop}  (v2 : Int32) (v4 : Int32) (s : St) (hb1 : ∀ (a4 : Int32) (t : St), Acc (.inl (a4, t)) → KK SC G 51 [(0, .ref (ad G 2)), (1, .ref (ad G 1)), (2, .int v2), (4, .int a4)] [] t) (hx1 : ∀ (a4 : Int32) (t : St), Acc (.inr (.inl (a4, t))) → KK SC G 116 [(0, .ref (ad G 2)), (1, .ref (ad G 1)), (2, .int v2), (4, .int a4)] [] t) (hr : ∀ v : (Int32 × St), Acc (.inr (.inr v)) → RtZ SC G cX0_translate v.1 v.2) : JJ SC G Acc (f_As_translate_L51 v2 v4 s) 51 [(0, .ref (ad G 2)), (1, .ref (ad G 1)), (2, .int v2), (4, .int v4)] [] s := by
  unfold f_As_translate_L51
  refine jr_iload C 3 rfl dX0_translate_51 ?_
  refine jr_iload_n C 2 rfl rfl dX0_translate_53 ?_
  refine jr_icmp_ge C (tgt := 116) dX0_translate_54 (by decide) (fun h14 => ?_) (fun h14 => ?_)
  · refine jo_pos h14 ?_
    exact jr_end (fun h => hx1 v4 s h)
  refine jo_neg h14 ?_
  refine jr_aload_n C 0 rfl rfl dX0_translate_57 ?_
  refine jr_getI C FX_0 8 oC_2.1 oC_2.2 ff_0_8.1 ff_0_8.2 fl_X0_67 dX0_translate_58 ?_
  refine jr_sipush C sp_200 dX0_translate_61 ?_
  refine jr_icmp_ge C (tgt := 116) dX0_translate_64 (by decide) (fun h15 => ?_) (fun h15 => ?_)
  · refine jo_pos h15 ?_
    exact jr_end (fun h => hx1 v4 s h)
  refine jo_neg h15 ?_
  refine jr_aload_n C 1 rfl rfl dX0_translate_67 ?_
  refine jr_iload C 3 rfl dX0_translate_68 ?_
  refine jr_iload_n C 2 rfl rfl dX0_translate_70 ?_
  refine jr_bind (fun q16 e17 => ?_)
  refine jr_callSI C km_X0_81 (rk hR rfl) (c_As_endOfLine (gl G) v4 v2 s e17) rfl rfl rfl (Nat.le_of_ble_eq_true rfl) dX0_translate_71 ?_
  refine jr_istore C (lv' := [(5, .int q16), (0, .ref (ad G 2)), (1, .ref (ad G 1)), (2, .int v2), (4, .int v4)]) (ltL hL rfl) rfl dX0_translate_74 ?_
  refine jr_aload_n C 1 rfl rfl dX0_translate_76 ?_
  refine jr_dup C rfl dX0_translate_77 ?_
  refine jr_getI C FX_0 8 oC_2.1 oC_2.2 ff_0_8.1 ff_0_8.2 fl_X0_67 dX0_translate_78 ?_
  refine jr_iconst C ic_1 dX0_translate_81 ?_
  refine jr_iadd C dX0_translate_82 ?_
  refine jr_putI C FX_0 8 oC_2.1 oC_2.2 ff_0_8.1 ff_0_8.2 rfl rfl fl_X0_67 dX0_translate_83 (jr_ltS fun s18 => ?_)
  refine jr_aload_n C 1 rfl rfl dX0_translate_86 ?_
  refine jr_getR C FX_0 0 oC_2.1 oC_2.2 ff_0_0.1 ff_0_0.2 rfl fl_X0_12 dX0_translate_87 ?_
  refine jr_aload_n C 2 rfl rfl dX0_translate_90 ?_
  refine jr_iload C 4 rfl dX0_translate_91 ?_
  refine jr_iload C 0 rfl dX0_translate_93 ?_
  refine jr_bind (fun q19 e20 => ?_)
  refine jr_callVV C FX_8 km_X0_85 oC_3.1 oC_3.2 (rk hR rfl) (c_Sc_openLine (gl G) v4 q16 s18 e20) rfl rfl rfl (Nat.le_of_ble_eq_true rfl) dX0_translate_95 ?_
  refine jr_aload_n C 1 rfl rfl dX0_translate_98 ?_
  refine jr_bind (fun q21 e22 => ?_)
  refine jr_callVI C FX_0 km_X0_89 oC_2.1 oC_2.2 (rk hR rfl) (c_As_readLine (gl G) q19 e22) rfl rfl rfl (Nat.le_of_ble_eq_true rfl) dX0_translate_99 ?_
  refine jr_if_ne C (tgt := 107) dX0_translate_102 (by decide) (fun h23 => ?_) (fun h23 => ?_)
  · refine jo_neg h23 ?_
    refine jr_iload C 0 rfl dX0_translate_107 ?_
    refine jr_iconst C ic_1 dX0_translate_109 ?_
    refine jr_iadd C dX0_translate_110 ?_
    refine jr_ltI (fun x24 => ?_)
    refine jr_istore C (lv' := [(4, .int x24), (5, .int q16), (0, .ref (ad G 2)), (1, .ref (ad G 1)), (2, .int v2)]) (ltL hL rfl) rfl dX0_translate_111 ?_
    refine jr_goto C (tgt := 51) dX0_translate_113 (by decide) ?_
    refine jr_lv [2, 3, 4, 0] rfl ?_
    exact jr_end (fun h => hb1 x24 (q21.2) h)
  refine jo_pos h23 ?_
  refine jr_iconst C ic_0 dX0_translate_105 ?_
  exact jr_end (fun h => hr (0, q21.2) h _ _ _ bN0 dX0_translate_106)
noncomputable def f_As_translate (p3 : Nat) (v2 : Int32) (s : St) : Option (Int32 × St) :=
  lt (uI s 2 10 0) fun s1 =>
  lt (uI s1 2 11 (-1)) fun s2 =>
  lt (uI s2 2 12 (-1)) fun s3 =>
  lt (uI s3 2 4 0) fun s4 =>
  lt (uI s4 2 8 0) fun s5 =>
  lt (uR s5 2 p3) fun s6 =>
  gP (s6.2.2 2) fun p7 =>
  (f_Pr_clear p7 s6).bind fun q9 =>
  (f_As_isTooLong v2 q9).bind fun q11 =>
  if q11.1 = 0 then
  ((wh (fun a : (Int32 × St) => f_As_translate_L51 v2 a.1 a.2) (0, q11.2)).bind (Sum.elim (fun b25 =>
  (f_As_resolveLabels (b25.2)).bind fun q26 =>
  some ((bN (q26.1)), q26.2)) some))
  else
  some (0, q11.2)
set_option maxHeartbeats 4000000 in
set_option maxRecDepth 100000 in
theorem t_As_translate (G : GG) (hR : gR G = rmx 7 176) (hL : gL G = 6) (C : Cx SC G cX0_translate RX0) {Acc : (Int32 × St) → Prop} {p3 : Nat} (hp3 : isP p3) (v2 : Int32) (s : St) (hr : ∀ v : (Int32 × St), Acc v → RtZ SC G cX0_translate v.1 v.2) : JJ SC G Acc (f_As_translate p3 v2 s) 0 [(0, .ref (ad G 2)), (1, .ref (ad G 1)), (2, .int v2), (3, .ref (ad G p3))] [] s := by
  unfold f_As_translate
  refine jr_aload_n C 0 rfl rfl dX0_translate_0 ?_
  refine jr_iconst C ic_0 dX0_translate_1 ?_
  refine jr_putI C FX_0 10 oC_2.1 oC_2.2 ff_0_10.1 ff_0_10.2 rfl rfl fl_X0_61 dX0_translate_2 (jr_ltS fun s1 => ?_)
  refine jr_aload_n C 0 rfl rfl dX0_translate_5 ?_
  refine jr_iconst C ic_m1 dX0_translate_6 ?_
  refine jr_putI C FX_0 11 oC_2.1 oC_2.2 ff_0_11.1 ff_0_11.2 rfl rfl fl_X0_42 dX0_translate_7 (jr_ltS fun s2 => ?_)
  refine jr_aload_n C 0 rfl rfl dX0_translate_10 ?_
  refine jr_iconst C ic_m1 dX0_translate_11 ?_
  refine jr_putI C FX_0 12 oC_2.1 oC_2.2 ff_0_12.1 ff_0_12.2 rfl rfl fl_X0_46 dX0_translate_12 (jr_ltS fun s3 => ?_)
  refine jr_aload_n C 0 rfl rfl dX0_translate_15 ?_
  refine jr_iconst C ic_0 dX0_translate_16 ?_
  refine jr_putI C FX_0 4 oC_2.1 oC_2.2 ff_0_4.1 ff_0_4.2 rfl rfl fl_X0_64 dX0_translate_17 (jr_ltS fun s4 => ?_)
  refine jr_aload_n C 0 rfl rfl dX0_translate_20 ?_
  refine jr_iconst C ic_0 dX0_translate_21 ?_
  refine jr_putI C FX_0 8 oC_2.1 oC_2.2 ff_0_8.1 ff_0_8.2 rfl rfl fl_X0_67 dX0_translate_22 (jr_ltS fun s5 => ?_)
  refine jr_aload_n C 0 rfl rfl dX0_translate_25 ?_
  refine jr_aload_n C 3 rfl rfl dX0_translate_26 ?_
  refine jr_putR C FX_0 9 oC_2.1 oC_2.2 ff_0_9.1 ff_0_9.2 rfl (Or.inl rfl) (pne hp3) rfl hu_2 fl_X0_70 dX0_translate_27 (jr_ltS fun s6 => ?_)
  refine jr_aload_n C 0 rfl rfl dX0_translate_30 ?_
  refine jr_getP C FX_0 9 oC_2.1 oC_2.2 ff_0_9.1 ff_0_9.2 (fun hp => rX_p rfl (pne hp)) fl_X0_70 dX0_translate_31 (fun p7 h8 => ?_)
  refine jr_bind (fun q9 e10 => ?_)
  refine jr_callVV C FX_7 km_X0_74 (oP_0 h8).1 (oP_0 h8).2 (rk hR rfl) (c_Pr_clear (gl G) h8 s6 e10) rfl rfl rfl (Nat.le_of_ble_eq_true rfl) dX0_translate_34 ?_
  refine jr_aload_n C 0 rfl rfl dX0_translate_37 ?_
  refine jr_aload_n C 1 rfl rfl dX0_translate_38 ?_
  refine jr_iload_n C 2 rfl rfl dX0_translate_39 ?_
  refine jr_bind (fun q11 e12 => ?_)
  refine jr_callVI C FX_0 km_X0_77 oC_2.1 oC_2.2 (rk hR rfl) (c_As_isTooLong (gl G) v2 q9 e12) rfl rfl rfl (Nat.le_of_ble_eq_true rfl) dX0_translate_40 ?_
  refine jr_if_eq C (tgt := 48) dX0_translate_43 (by decide) (fun h13 => ?_) (fun h13 => ?_)
  · refine jo_pos h13 ?_
    refine jr_iconst C ic_0 dX0_translate_48 ?_
    refine jr_istore C (lv' := [(4, .int 0), (0, .ref (ad G 2)), (1, .ref (ad G 1)), (2, .int v2), (3, .ref (ad G p3))]) (ltL hL rfl) rfl dX0_translate_49 ?_
    refine jr_lv [1, 2, 3, 0] rfl ?_
    refine jr_loopE (pc := 51) (pcx := 116) (f := fun a : (Int32 × St) => f_As_translate_L51 v2 a.1 a.2) (fun a : (Int32 × St) => [(0, .ref (ad G 2)), (1, .ref (ad G 1)), (2, .int v2), (4, .int (a.1))]) (fun a : (Int32 × St) => a.2) (0, q11.2) (fun a => t_As_translate_L51 G hR hL C  v2 a.1 a.2 (fun _ _ h => h) (fun _ _ h => h) hr) (fun b25 => ?_)
    refine jr_aload_n C 0 rfl rfl dX0_translate_116 ?_
    refine jr_bind (fun q26 e27 => ?_)
    refine jr_callVI C FX_0 km_X0_93 oC_2.1 oC_2.2 (rk hR rfl) (c_As_resolveLabels (gl G) (b25.2) e27) rfl rfl rfl (Nat.le_of_ble_eq_true rfl) dX0_translate_117 ?_
    exact jr_end (fun h => hr ((bN (q26.1)), q26.2) h _ _ _ rfl dX0_translate_120)
  refine jo_neg h13 ?_
  refine jr_iconst C ic_0 dX0_translate_46 ?_
  exact jr_end (fun h => hr (0, q11.2) h _ _ _ bN0 dX0_translate_47)
set_option maxRecDepth 100000 in
theorem c_As_translate (l : Launch) {p3 : Nat} (hp3 : isP p3) (v2 : Int32) (s : St) {q : (Int32 × St)} (h : f_As_translate p3 v2 s = some q) : CT SC l yX0_translate cX0_translate 6 (some .boolean) 7 176 (fun a => [.ref (a 2), .ref (a 1), .int v2, .ref (a p3)]) s q.2 (fun _ => some (.int q.1)) :=
  ct_Z okX_C (by decide) (fun _ => Nat.le_of_ble_eq_true rfl) (fun G hl hR hL C hr => t_As_translate G hR hL C (Acc := fun v => v = q) hp3 v2 s (fun v hv => by rw [hv]; exact hr) ⟨_, h, rfl⟩)
noncomputable def f_Lg_dropSuppressions (B : Nat) (s : St) : Option St :=
  lt (uI s (B + 17) 10 0) fun s1 =>
  some s1
set_option maxHeartbeats 4000000 in
set_option maxRecDepth 100000 in
theorem t_Lg_dropSuppressions (G : GG) (hR : gR G = rmx 0 0) (hL : gL G = 1) (C : Cx SC G cX4_dropSuppressions RX4) {Acc : St → Prop} {B : Nat} (hB : isM B)  (s : St) (hr : ∀ v : St, Acc v → RtV SC G cX4_dropSuppressions v) : JJ SC G Acc (f_Lg_dropSuppressions B s) 0 [(0, .ref (ad G (B + 17)))] [] s := by
  unfold f_Lg_dropSuppressions
  refine jr_aload_n C 0 rfl rfl dX4_dropSuppressions_0 ?_
  refine jr_iconst C ic_0 dX4_dropSuppressions_1 ?_
  refine jr_putI C FX_4 10 (oM_17 hB).1 (oM_17 hB).2 ff_4_10.1 ff_4_10.2 rfl rfl fl_X4_43 dX4_dropSuppressions_2 (jr_ltS fun s1 => ?_)
  exact jr_end (fun h => hr s1 h _ _ dX4_dropSuppressions_5)
set_option maxRecDepth 100000 in
theorem c_Lg_dropSuppressions (l : Launch) {B : Nat} (hB : isM B)  (s : St) {q : St} (h : f_Lg_dropSuppressions B s = some q) : CT SC l yX4_dropSuppressions cX4_dropSuppressions 1 none 0 0 (fun a => [.ref (a (B + 17))]) s q (fun _ => none) :=
  ct_V okX_C (by decide) (fun _ => Nat.le_of_ble_eq_true rfl) (fun G hl hR hL C hr => t_Lg_dropSuppressions G hR hL C (Acc := fun v => v = q) hB  s (fun v hv => by rw [hv]; exact hr) ⟨_, h, rfl⟩)
noncomputable def f_Me_clear_J62_1 (B : Nat) (v2 : Int32) (v3 : Int32) (w0 : Int32) (w1 : Int32) (s : St) : Option ((Int32 × St) ⊕ (Int32 × St)) :=
  gd w1 4096 <|
  lt (uI s (B + 3) (w1 : Int32).toNatClampNeg w0) fun s7 =>
  gd v2 4096 <|
  lt (uI s7 (B + 4) (v2 : Int32).toNatClampNeg 0) fun s8 =>
  gd v2 4096 <|
  lt (uI s8 (B + 5) (v2 : Int32).toNatClampNeg (bN v3)) fun s9 =>
  some (.inl ((v2 + 1), s9))
set_option maxHeartbeats 4000000 in
set_option maxRecDepth 100000 in
theorem t_Me_clear_J62_1 (G : GG) (hR : gR G = rmx 0 0) (hL : gL G = 4) (C : Cx SC G cX6_clear RX6) {Acc : ((Int32 × St) ⊕ (Int32 × St)) → Prop} {B : Nat} (hB : isM B) (v2 : Int32) (v3 : Int32) (w0 : Int32) (w1 : Int32) (s : St) (hb1 : ∀ (a2 : Int32) (t : St), Acc (.inl (a2, t)) → KK SC G 12 [(0, .ref (ad G (B + 1))), (2, .int a2)] [] t) (hx1 : ∀ (a2 : Int32) (t : St), Acc (.inr (a2, t)) → KK SC G 83 [(0, .ref (ad G (B + 1))), (2, .int a2)] [] t) : JJ SC G Acc (f_Me_clear_J62_1 B v2 v3 w0 w1 s) 62 [(0, .ref (ad G (B + 1))), (2, .int v2), (3, .int v3)] [.int w0, .int w1, .ref (ad G (B + 3))] s := by
  unfold f_Me_clear_J62_1
  refine jr_iast C (oM_3 hB).1 (oM_3 hB).2.1 (oM_3 hB).2.2 dX6_clear_62 (jr_ltS fun s7 => ?_)
  refine jr_aload_n C 0 rfl rfl dX6_clear_63 ?_
  refine jr_getR C FX_6 2 (oM_1 hB).1 (oM_1 hB).2 ff_6_2.1 ff_6_2.2 (rM_1_2 _ hB) fl_X6_18 dX6_clear_64 ?_
  refine jr_iload_n C 1 rfl rfl dX6_clear_67 ?_
  refine jr_iconst C ic_0 dX6_clear_68 ?_
  refine jr_iast C (oM_4 hB).1 (oM_4 hB).2.1 (oM_4 hB).2.2 dX6_clear_69 (jr_ltS fun s8 => ?_)
  refine jr_aload_n C 0 rfl rfl dX6_clear_70 ?_
  refine jr_getR C FX_6 3 (oM_1 hB).1 (oM_1 hB).2 ff_6_3.1 ff_6_3.2 (rM_1_3 _ hB) fl_X6_21 dX6_clear_71 ?_
  refine jr_iload_n C 1 rfl rfl dX6_clear_74 ?_
  refine jr_iload_n C 2 rfl rfl dX6_clear_75 ?_
  refine jr_zast C (oM_5 hB).1 (oM_5 hB).2.1 (oM_5 hB).2.2 dX6_clear_76 (jr_ltS fun s9 => ?_)
  refine jr_iinc C 1 rfl ii_1 (lv' := [(2, .int (v2 + 1)), (0, .ref (ad G (B + 1))), (3, .int v3)]) (ltL hL rfl) rfl dX6_clear_77 ?_
  refine jr_goto C (tgt := 12) dX6_clear_80 (by decide) ?_
  refine jr_lv [1, 0] rfl ?_
  exact jr_end (fun h => hb1 (v2 + 1) s9 h)
noncomputable def f_Me_clear_J38_1 (B : Nat) (v2 : Int32) (w0 : Int32) (s : St) : Option ((Int32 × St) ⊕ (Int32 × St)) :=
  gd v2 4096 <|
  lt (uI s (B + 2) (v2 : Int32).toNatClampNeg 0) fun s5 =>
  if w0 = 0 then
  f_Me_clear_J62_1 B v2 w0 255 v2 s5
  else
  f_Me_clear_J62_1 B v2 w0 0 v2 s5
set_option maxHeartbeats 4000000 in
set_option maxRecDepth 100000 in
theorem t_Me_clear_J38_1 (G : GG) (hR : gR G = rmx 0 0) (hL : gL G = 4) (C : Cx SC G cX6_clear RX6) {Acc : ((Int32 × St) ⊕ (Int32 × St)) → Prop} {B : Nat} (hB : isM B) (v2 : Int32) (w0 : Int32) (s : St) (hb1 : ∀ (a2 : Int32) (t : St), Acc (.inl (a2, t)) → KK SC G 12 [(0, .ref (ad G (B + 1))), (2, .int a2)] [] t) (hx1 : ∀ (a2 : Int32) (t : St), Acc (.inr (a2, t)) → KK SC G 83 [(0, .ref (ad G (B + 1))), (2, .int a2)] [] t) : JJ SC G Acc (f_Me_clear_J38_1 B v2 w0 s) 38 [(0, .ref (ad G (B + 1))), (2, .int v2)] [.int w0] s := by
  unfold f_Me_clear_J38_1
  refine jr_istore_n C (lv' := [(3, .int w0), (0, .ref (ad G (B + 1))), (2, .int v2)]) (ltL hL rfl) rfl rfl dX6_clear_38 ?_
  refine jr_aload_n C 1 rfl rfl dX6_clear_39 ?_
  refine jr_getR C FX_6 0 (oM_1 hB).1 (oM_1 hB).2 ff_6_0.1 ff_6_0.2 (rM_1_0 _ hB) fl_X6_11 dX6_clear_40 ?_
  refine jr_iload_n C 2 rfl rfl dX6_clear_43 ?_
  refine jr_iconst C ic_0 dX6_clear_44 ?_
  refine jr_iast C (oM_2 hB).1 (oM_2 hB).2.1 (oM_2 hB).2.2 dX6_clear_45 (jr_ltS fun s5 => ?_)
  refine jr_aload_n C 1 rfl rfl dX6_clear_46 ?_
  refine jr_getR C FX_6 1 (oM_1 hB).1 (oM_1 hB).2 ff_6_1.1 ff_6_1.2 (rM_1_1 _ hB) fl_X6_15 dX6_clear_47 ?_
  refine jr_iload_n C 2 rfl rfl dX6_clear_50 ?_
  refine jr_iload_n C 0 rfl rfl dX6_clear_51 ?_
  refine jr_if_eq C (tgt := 59) dX6_clear_52 (by decide) (fun h6 => ?_) (fun h6 => ?_)
  · refine jo_pos h6 ?_
    refine jr_sipush C sp_255 dX6_clear_59 ?_
    refine jr_lv [1, 2, 0] rfl ?_
    exact t_Me_clear_J62_1 G hR hL C hB v2 w0 255 v2 s5 hb1 hx1
  refine jo_neg h6 ?_
  refine jr_iconst C ic_0 dX6_clear_55 ?_
  refine jr_goto C (tgt := 62) dX6_clear_56 (by decide) ?_
  refine jr_lv [1, 2, 0] rfl ?_
  exact t_Me_clear_J62_1 G hR hL C hB v2 w0 0 v2 s5 hb1 hx1
noncomputable def f_Me_clear_J37_1 (B : Nat) (v2 : Int32) (s : St) : Option ((Int32 × St) ⊕ (Int32 × St)) :=
  f_Me_clear_J38_1 B v2 0 s
set_option maxHeartbeats 4000000 in
set_option maxRecDepth 100000 in
theorem t_Me_clear_J37_1 (G : GG) (hR : gR G = rmx 0 0) (hL : gL G = 4) (C : Cx SC G cX6_clear RX6) {Acc : ((Int32 × St) ⊕ (Int32 × St)) → Prop} {B : Nat} (hB : isM B) (v2 : Int32) (s : St) (hb1 : ∀ (a2 : Int32) (t : St), Acc (.inl (a2, t)) → KK SC G 12 [(0, .ref (ad G (B + 1))), (2, .int a2)] [] t) (hx1 : ∀ (a2 : Int32) (t : St), Acc (.inr (a2, t)) → KK SC G 83 [(0, .ref (ad G (B + 1))), (2, .int a2)] [] t) : JJ SC G Acc (f_Me_clear_J37_1 B v2 s) 37 [(0, .ref (ad G (B + 1))), (2, .int v2)] [] s := by
  unfold f_Me_clear_J37_1
  refine jr_iconst C ic_0 dX6_clear_37 ?_
  exact t_Me_clear_J38_1 G hR hL C hB v2 0 s hb1 hx1
noncomputable def f_Me_clear_L12 (B : Nat) (v2 : Int32) (s : St) : Option ((Int32 × St) ⊕ (Int32 × St)) :=
  if 4096 ≤ v2 then
  some (.inr (v2, s))
  else
  if v2 < 256 then
  f_Me_clear_J37_1 B v2 s
  else
  if 512 ≤ v2 then
  f_Me_clear_J37_1 B v2 s
  else
  f_Me_clear_J38_1 B v2 1 s
set_option maxHeartbeats 4000000 in
set_option maxRecDepth 100000 in
theorem t_Me_clear_L12 (G : GG) (hR : gR G = rmx 0 0) (hL : gL G = 4) (C : Cx SC G cX6_clear RX6) {Acc : ((Int32 × St) ⊕ (Int32 × St)) → Prop} {B : Nat} (hB : isM B) (v2 : Int32) (s : St) (hb1 : ∀ (a2 : Int32) (t : St), Acc (.inl (a2, t)) → KK SC G 12 [(0, .ref (ad G (B + 1))), (2, .int a2)] [] t) (hx1 : ∀ (a2 : Int32) (t : St), Acc (.inr (a2, t)) → KK SC G 83 [(0, .ref (ad G (B + 1))), (2, .int a2)] [] t) : JJ SC G Acc (f_Me_clear_L12 B v2 s) 12 [(0, .ref (ad G (B + 1))), (2, .int v2)] [] s := by
  unfold f_Me_clear_L12
  refine jr_iload_n C 1 rfl rfl dX6_clear_12 ?_
  refine jr_sipush C sp_4096 dX6_clear_13 ?_
  refine jr_icmp_ge C (tgt := 83) dX6_clear_16 (by decide) (fun h3 => ?_) (fun h3 => ?_)
  · refine jo_pos h3 ?_
    exact jr_end (fun h => hx1 v2 s h)
  refine jo_neg h3 ?_
  refine jr_iload_n C 1 rfl rfl dX6_clear_19 ?_
  refine jr_sipush C sp_256 dX6_clear_20 ?_
  refine jr_icmp_lt C (tgt := 37) dX6_clear_23 (by decide) (fun h4 => ?_) (fun h4 => ?_)
  · refine jo_pos h4 ?_
    exact t_Me_clear_J37_1 G hR hL C hB v2 s hb1 hx1
  refine jo_neg h4 ?_
  refine jr_iload_n C 1 rfl rfl dX6_clear_26 ?_
  refine jr_sipush C sp_512 dX6_clear_27 ?_
  refine jr_icmp_ge C (tgt := 37) dX6_clear_30 (by decide) (fun h10 => ?_) (fun h10 => ?_)
  · refine jo_pos h10 ?_
    exact t_Me_clear_J37_1 G hR hL C hB v2 s hb1 hx1
  refine jo_neg h10 ?_
  refine jr_iconst C ic_1 dX6_clear_33 ?_
  refine jr_goto C (tgt := 38) dX6_clear_34 (by decide) ?_
  exact t_Me_clear_J38_1 G hR hL C hB v2 1 s hb1 hx1
noncomputable def f_Me_clear (B : Nat) (v1 : Int32) (s : St) : Option St :=
  lt (uI s (B + 1) 4 v1) fun s1 =>
  lt (uI s1 (B + 1) 5 0) fun s2 =>
  (wh (fun a : (Int32 × St) => f_Me_clear_L12 B a.1 a.2) (0, s2)).bind (fun b11 =>
  some (b11.2))
set_option maxHeartbeats 4000000 in
set_option maxRecDepth 100000 in
theorem t_Me_clear (G : GG) (hR : gR G = rmx 0 0) (hL : gL G = 4) (C : Cx SC G cX6_clear RX6) {Acc : St → Prop} {B : Nat} (hB : isM B) (v1 : Int32) (s : St) (hr : ∀ v : St, Acc v → RtV SC G cX6_clear v) : JJ SC G Acc (f_Me_clear B v1 s) 0 [(0, .ref (ad G (B + 1))), (1, .int v1)] [] s := by
  unfold f_Me_clear
  refine jr_aload_n C 0 rfl rfl dX6_clear_0 ?_
  refine jr_iload_n C 1 rfl rfl dX6_clear_1 ?_
  refine jr_putI C FX_6 4 (oM_1 hB).1 (oM_1 hB).2 ff_6_4.1 ff_6_4.2 rfl rfl fl_X6_25 dX6_clear_2 (jr_ltS fun s1 => ?_)
  refine jr_aload_n C 0 rfl rfl dX6_clear_5 ?_
  refine jr_iconst C ic_0 dX6_clear_6 ?_
  refine jr_putZ C FX_6 5 (oM_1 hB).1 (oM_1 hB).2 ff_6_5.1 ff_6_5.2 rfl rfl (Or.inl rfl) fl_X6_29 dX6_clear_7 (jr_ltS fun s2 => ?_)
  refine jr_iconst C ic_0 dX6_clear_10 ?_
  refine jr_istore_n C (lv' := [(2, .int 0), (0, .ref (ad G (B + 1))), (1, .int v1)]) (ltL hL rfl) rfl rfl dX6_clear_11 ?_
  refine jr_lv [1, 0] rfl ?_
  refine jr_loopB (pc := 12) (pcx := 83) (f := fun a : (Int32 × St) => f_Me_clear_L12 B a.1 a.2) (fun a : (Int32 × St) => [(0, .ref (ad G (B + 1))), (2, .int (a.1))]) (fun a : (Int32 × St) => a.2) (0, s2) (fun a => t_Me_clear_L12 G hR hL C hB a.1 a.2 (fun _ _ h => h) (fun _ _ h => h)) (fun b11 => ?_)
  exact jr_end (fun h => hr (b11.2) h _ _ dX6_clear_83)
set_option maxRecDepth 100000 in
theorem c_Me_clear (l : Launch) {B : Nat} (hB : isM B) (v1 : Int32) (s : St) {q : St} (h : f_Me_clear B v1 s = some q) : CT SC l yX6_clear cX6_clear 4 none 0 0 (fun a => [.ref (a (B + 1)), .int v1]) s q (fun _ => none) :=
  ct_V okX_C (by decide) (fun _ => Nat.le_of_ble_eq_true rfl) (fun G hl hR hL C hr => t_Me_clear G hR hL C (Acc := fun v => v = q) hB v1 s (fun v hv => by rw [hv]; exact hr) ⟨_, h, rfl⟩)
noncomputable def f_He_clear_L22 (B : Nat) (v1 : Int32) (s : St) : Option ((Int32 × St) ⊕ (Int32 × St)) :=
  if 256 ≤ v1 then
  some (.inr (v1, s))
  else
  gd v1 256 <|
  lt (uI s (B + 12) (v1 : Int32).toNatClampNeg 0) fun s6 =>
  some (.inl ((v1 + 1), s6))
set_option maxHeartbeats 4000000 in
set_option maxRecDepth 100000 in
theorem t_He_clear_L22 (G : GG) (hR : gR G = rmx 0 0) (hL : gL G = 2) (C : Cx SC G cX2_clear RX2) {Acc : ((Int32 × St) ⊕ (Int32 × St)) → Prop} {B : Nat} (hB : isM B) (v1 : Int32) (s : St) (hb1 : ∀ (a1 : Int32) (t : St), Acc (.inl (a1, t)) → KK SC G 22 [(0, .ref (ad G (B + 6))), (1, .int a1)] [] t) (hx1 : ∀ (a1 : Int32) (t : St), Acc (.inr (a1, t)) → KK SC G 42 [(0, .ref (ad G (B + 6))), (1, .int a1)] [] t) : JJ SC G Acc (f_He_clear_L22 B v1 s) 22 [(0, .ref (ad G (B + 6))), (1, .int v1)] [] s := by
  unfold f_He_clear_L22
  refine jr_iload_n C 1 rfl rfl dX2_clear_22 ?_
  refine jr_sipush C sp_256 dX2_clear_23 ?_
  refine jr_icmp_ge C (tgt := 42) dX2_clear_26 (by decide) (fun h5 => ?_) (fun h5 => ?_)
  · refine jo_pos h5 ?_
    exact jr_end (fun h => hx1 v1 s h)
  refine jo_neg h5 ?_
  refine jr_aload_n C 0 rfl rfl dX2_clear_29 ?_
  refine jr_getR C FX_2 6 (oM_6 hB).1 (oM_6 hB).2 ff_2_6.1 ff_2_6.2 (rM_6_6 _ hB) fl_X2_27 dX2_clear_30 ?_
  refine jr_iload_n C 1 rfl rfl dX2_clear_33 ?_
  refine jr_iconst C ic_0 dX2_clear_34 ?_
  refine jr_iast C (oM_12 hB).1 (oM_12 hB).2.1 (oM_12 hB).2.2 dX2_clear_35 (jr_ltS fun s6 => ?_)
  refine jr_iinc C 1 rfl ii_1 (lv' := [(1, .int (v1 + 1)), (0, .ref (ad G (B + 6)))]) (ltL hL rfl) rfl dX2_clear_36 ?_
  refine jr_goto C (tgt := 22) dX2_clear_39 (by decide) ?_
  refine jr_lv [1, 0] rfl ?_
  exact jr_end (fun h => hb1 (v1 + 1) s6 h)
noncomputable def f_He_clear (B : Nat) (s : St) : Option St :=
  lt (uI s (B + 6) 5 0) fun s1 =>
  lt (uI s1 (B + 6) 8 0) fun s2 =>
  lt (uI s2 (B + 6) 9 0) fun s3 =>
  lt (uI s3 (B + 6) 10 0) fun s4 =>
  (wh (fun a : (Int32 × St) => f_He_clear_L22 B a.1 a.2) (0, s4)).bind (fun b7 =>
  some (b7.2))
set_option maxHeartbeats 4000000 in
set_option maxRecDepth 100000 in
theorem t_He_clear (G : GG) (hR : gR G = rmx 0 0) (hL : gL G = 2) (C : Cx SC G cX2_clear RX2) {Acc : St → Prop} {B : Nat} (hB : isM B)  (s : St) (hr : ∀ v : St, Acc v → RtV SC G cX2_clear v) : JJ SC G Acc (f_He_clear B s) 0 [(0, .ref (ad G (B + 6)))] [] s := by
  unfold f_He_clear
  refine jr_aload_n C 0 rfl rfl dX2_clear_0 ?_
  refine jr_iconst C ic_0 dX2_clear_1 ?_
  refine jr_putI C FX_2 5 (oM_6 hB).1 (oM_6 hB).2 ff_2_5.1 ff_2_5.2 rfl rfl fl_X2_33 dX2_clear_2 (jr_ltS fun s1 => ?_)
  refine jr_aload_n C 0 rfl rfl dX2_clear_5 ?_
  refine jr_iconst C ic_0 dX2_clear_6 ?_
  refine jr_putI C FX_2 8 (oM_6 hB).1 (oM_6 hB).2 ff_2_8.1 ff_2_8.2 rfl rfl fl_X2_37 dX2_clear_7 (jr_ltS fun s2 => ?_)
  refine jr_aload_n C 0 rfl rfl dX2_clear_10 ?_
  refine jr_iconst C ic_0 dX2_clear_11 ?_
  refine jr_putI C FX_2 9 (oM_6 hB).1 (oM_6 hB).2 ff_2_9.1 ff_2_9.2 rfl rfl fl_X2_40 dX2_clear_12 (jr_ltS fun s3 => ?_)
  refine jr_aload_n C 0 rfl rfl dX2_clear_15 ?_
  refine jr_iconst C ic_0 dX2_clear_16 ?_
  refine jr_putI C FX_2 10 (oM_6 hB).1 (oM_6 hB).2 ff_2_10.1 ff_2_10.2 rfl rfl fl_X2_43 dX2_clear_17 (jr_ltS fun s4 => ?_)
  refine jr_iconst C ic_0 dX2_clear_20 ?_
  refine jr_istore_n C (lv' := [(1, .int 0), (0, .ref (ad G (B + 6)))]) (ltL hL rfl) rfl rfl dX2_clear_21 ?_
  refine jr_lv [1, 0] rfl ?_
  refine jr_loopB (pc := 22) (pcx := 42) (f := fun a : (Int32 × St) => f_He_clear_L22 B a.1 a.2) (fun a : (Int32 × St) => [(0, .ref (ad G (B + 6))), (1, .int (a.1))]) (fun a : (Int32 × St) => a.2) (0, s4) (fun a => t_He_clear_L22 G hR hL C hB a.1 a.2 (fun _ _ h => h) (fun _ _ h => h)) (fun b7 => ?_)
  exact jr_end (fun h => hr (b7.2) h _ _ dX2_clear_42)
set_option maxRecDepth 100000 in
theorem c_He_clear (l : Launch) {B : Nat} (hB : isM B)  (s : St) {q : St} (h : f_He_clear B s = some q) : CT SC l yX2_clear cX2_clear 2 none 0 0 (fun a => [.ref (a (B + 6))]) s q (fun _ => none) :=
  ct_V okX_C (by decide) (fun _ => Nat.le_of_ble_eq_true rfl) (fun G hl hR hL C hr => t_He_clear G hR hL C (Acc := fun v => v = q) hB  s (fun v hv => by rw [hv]; exact hr) ⟨_, h, rfl⟩)
noncomputable def f_Lg_clear (B : Nat) (s : St) : Option St :=
  lt (uI s (B + 17) 4 0) fun s1 =>
  lt (uI s1 (B + 17) 5 0) fun s2 =>
  lt (uI s2 (B + 17) 6 0) fun s3 =>
  some s3
set_option maxHeartbeats 4000000 in
set_option maxRecDepth 100000 in
theorem t_Lg_clear (G : GG) (hR : gR G = rmx 0 0) (hL : gL G = 1) (C : Cx SC G cX4_clear RX4) {Acc : St → Prop} {B : Nat} (hB : isM B)  (s : St) (hr : ∀ v : St, Acc v → RtV SC G cX4_clear v) : JJ SC G Acc (f_Lg_clear B s) 0 [(0, .ref (ad G (B + 17)))] [] s := by
  unfold f_Lg_clear
  refine jr_aload_n C 0 rfl rfl dX4_clear_0 ?_
  refine jr_iconst C ic_0 dX4_clear_1 ?_
  refine jr_putI C FX_4 4 (oM_17 hB).1 (oM_17 hB).2 ff_4_4.1 ff_4_4.2 rfl rfl fl_X4_33 dX4_clear_2 (jr_ltS fun s1 => ?_)
  refine jr_aload_n C 0 rfl rfl dX4_clear_5 ?_
  refine jr_iconst C ic_0 dX4_clear_6 ?_
  refine jr_putI C FX_4 5 (oM_17 hB).1 (oM_17 hB).2 ff_4_5.1 ff_4_5.2 rfl rfl fl_X4_37 dX4_clear_7 (jr_ltS fun s2 => ?_)
  refine jr_aload_n C 0 rfl rfl dX4_clear_10 ?_
  refine jr_iconst C ic_0 dX4_clear_11 ?_
  refine jr_putI C FX_4 6 (oM_17 hB).1 (oM_17 hB).2 ff_4_6.1 ff_4_6.2 rfl rfl fl_X4_40 dX4_clear_12 (jr_ltS fun s3 => ?_)
  exact jr_end (fun h => hr s3 h _ _ dX4_clear_15)
set_option maxRecDepth 100000 in
theorem c_Lg_clear (l : Launch) {B : Nat} (hB : isM B)  (s : St) {q : St} (h : f_Lg_clear B s = some q) : CT SC l yX4_clear cX4_clear 1 none 0 0 (fun a => [.ref (a (B + 17))]) s q (fun _ => none) :=
  ct_V okX_C (by decide) (fun _ => Nat.le_of_ble_eq_true rfl) (fun G hl hR hL C hr => t_Lg_clear G hR hL C (Acc := fun v => v = q) hB  s (fun v hv => by rw [hv]; exact hr) ⟨_, h, rfl⟩)
noncomputable def f_Me_nextFilling (B : Nat) (s : St) : Option (Int32 × St) :=
  lt (uI s (B + 1) 4 (((s.1 (B + 1) 4) * 1664525) + 1013904223)) fun s1 =>
  some (((s1.1 (B + 1) 4) ^^^ ((((s1.1 (B + 1) 4)).toUInt32 >>> ((16 : Int32).toUInt32 &&& Int32.toUInt32 31)).toInt32)), s1)
set_option maxHeartbeats 4000000 in
set_option maxRecDepth 100000 in
theorem t_Me_nextFilling (G : GG) (hR : gR G = rmx 0 0) (hL : gL G = 1) (C : Cx SC G cX6_nextFilling RX6) {Acc : (Int32 × St) → Prop} {B : Nat} (hB : isM B)  (s : St) (hr : ∀ v : (Int32 × St), Acc v → RtI SC G cX6_nextFilling v.1 v.2) : JJ SC G Acc (f_Me_nextFilling B s) 0 [(0, .ref (ad G (B + 1)))] [] s := by
  unfold f_Me_nextFilling
  refine jr_aload_n C 0 rfl rfl dX6_nextFilling_0 ?_
  refine jr_aload_n C 0 rfl rfl dX6_nextFilling_1 ?_
  refine jr_getI C FX_6 4 (oM_1 hB).1 (oM_1 hB).2 ff_6_4.1 ff_6_4.2 fl_X6_25 dX6_nextFilling_2 ?_
  refine jr_ldc C kc_X6_33 dX6_nextFilling_5 ?_
  refine jr_imul C dX6_nextFilling_7 ?_
  refine jr_ldc C kc_X6_34 dX6_nextFilling_8 ?_
  refine jr_iadd C dX6_nextFilling_10 ?_
  refine jr_putI C FX_6 4 (oM_1 hB).1 (oM_1 hB).2 ff_6_4.1 ff_6_4.2 rfl rfl fl_X6_25 dX6_nextFilling_11 (jr_ltS fun s1 => ?_)
  refine jr_aload_n C 0 rfl rfl dX6_nextFilling_14 ?_
  refine jr_getI C FX_6 4 (oM_1 hB).1 (oM_1 hB).2 ff_6_4.1 ff_6_4.2 fl_X6_25 dX6_nextFilling_15 ?_
  refine jr_aload_n C 0 rfl rfl dX6_nextFilling_18 ?_
  refine jr_getI C FX_6 4 (oM_1 hB).1 (oM_1 hB).2 ff_6_4.1 ff_6_4.2 fl_X6_25 dX6_nextFilling_19 ?_
  refine jr_bipush C bp_16 dX6_nextFilling_22 ?_
  refine jr_iushr C dX6_nextFilling_24 ?_
  refine jr_ixor C dX6_nextFilling_25 ?_
  exact jr_end (fun h => hr (((s1.1 (B + 1) 4) ^^^ ((((s1.1 (B + 1) 4)).toUInt32 >>> ((16 : Int32).toUInt32 &&& Int32.toUInt32 31)).toInt32)), s1) h _ _ dX6_nextFilling_26)
set_option maxRecDepth 100000 in
theorem c_Me_nextFilling (l : Launch) {B : Nat} (hB : isM B)  (s : St) {q : (Int32 × St)} (h : f_Me_nextFilling B s = some q) : CT SC l yX6_nextFilling cX6_nextFilling 1 (some .int) 0 0 (fun a => [.ref (a (B + 1))]) s q.2 (fun _ => some (.int q.1)) :=
  ct_I okX_C (by decide) (fun _ => Nat.le_of_ble_eq_true rfl) (fun G hl hR hL C hr => t_Me_nextFilling G hR hL C (Acc := fun v => v = q) hB  s (fun v hv => by rw [hv]; exact hr) ⟨_, h, rfl⟩)
noncomputable def f_Da_put_J20 (w0 : Int32) (ow1 : Nat) (s : St) : Option St :=
  lt (uI s ow1 2 w0) fun s4 =>
  some s4
set_option maxHeartbeats 4000000 in
set_option maxRecDepth 100000 in
theorem t_Da_put_J20 (G : GG) (hR : gR G = rmx 0 0) (hL : gL G = 4) (C : Cx SC G cX1_put RX1) {Acc : St → Prop} {ow1 : Nat} (how1 : isD ow1) (w0 : Int32) (s : St) (hr : ∀ v : St, Acc v → RtV SC G cX1_put v) : JJ SC G Acc (f_Da_put_J20 w0 ow1 s) 20 [] [.int w0, .ref (ad G ow1)] s := by
  unfold f_Da_put_J20
  refine jr_putI C FX_1 2 (oD how1).1 (oD how1).2 ff_1_2.1 ff_1_2.2 rfl rfl fl_X1_18 dX1_put_20 (jr_ltS fun s4 => ?_)
  exact jr_end (fun h => hr s4 h _ _ dX1_put_23)
noncomputable def f_Da_put (k : Nat) (v1 : Int32) (v2 : Int32) (v3 : Int32) (s : St) : Option St :=
  lt (uI s k 0 v1) fun s1 =>
  lt (uI s1 k 1 v2) fun s2 =>
  if v2 = 0 then
  f_Da_put_J20 0 k s2
  else
  f_Da_put_J20 v3 k s2
set_option maxHeartbeats 4000000 in
set_option maxRecDepth 100000 in
theorem t_Da_put (G : GG) (hR : gR G = rmx 0 0) (hL : gL G = 4) (C : Cx SC G cX1_put RX1) {Acc : St → Prop} {k : Nat} (hk : isD k) (v1 : Int32) (v2 : Int32) (v3 : Int32) (s : St) (hr : ∀ v : St, Acc v → RtV SC G cX1_put v) : JJ SC G Acc (f_Da_put k v1 v2 v3 s) 0 [(0, .ref (ad G k)), (1, .int v1), (2, .int v2), (3, .int v3)] [] s := by
  unfold f_Da_put
  refine jr_aload_n C 0 rfl rfl dX1_put_0 ?_
  refine jr_iload_n C 1 rfl rfl dX1_put_1 ?_
  refine jr_putI C FX_1 0 (oD hk).1 (oD hk).2 ff_1_0.1 ff_1_0.2 rfl rfl fl_X1_9 dX1_put_2 (jr_ltS fun s1 => ?_)
  refine jr_aload_n C 0 rfl rfl dX1_put_5 ?_
  refine jr_iload_n C 2 rfl rfl dX1_put_6 ?_
  refine jr_putI C FX_1 1 (oD hk).1 (oD hk).2 ff_1_1.1 ff_1_1.2 rfl rfl fl_X1_15 dX1_put_7 (jr_ltS fun s2 => ?_)
  refine jr_aload_n C 0 rfl rfl dX1_put_10 ?_
  refine jr_iload_n C 2 rfl rfl dX1_put_11 ?_
  refine jr_if_ne C (tgt := 19) dX1_put_12 (by decide) (fun h3 => ?_) (fun h3 => ?_)
  · refine jo_neg h3 ?_
    refine jr_iload_n C 3 rfl rfl dX1_put_19 ?_
    refine jr_lv [] rfl ?_
    exact t_Da_put_J20 G hR hL C hk v3 s2 hr
  refine jo_pos h3 ?_
  refine jr_iconst C ic_0 dX1_put_15 ?_
  refine jr_goto C (tgt := 20) dX1_put_16 (by decide) ?_
  refine jr_lv [] rfl ?_
  exact t_Da_put_J20 G hR hL C hk 0 s2 hr
set_option maxRecDepth 100000 in
theorem c_Da_put (l : Launch) {k : Nat} (hk : isD k) (v1 : Int32) (v2 : Int32) (v3 : Int32) (s : St) {q : St} (h : f_Da_put k v1 v2 v3 s = some q) : CT SC l yX1_put cX1_put 4 none 0 0 (fun a => [.ref (a k), .int v1, .int v2, .int v3]) s q (fun _ => none) :=
  ct_V okX_C (by decide) (fun _ => Nat.le_of_ble_eq_true rfl) (fun G hl hR hL C hr => t_Da_put G hR hL C (Acc := fun v => v = q) hk v1 v2 v3 s (fun v hv => by rw [hv]; exact hr) ⟨_, h, rfl⟩)
noncomputable def f_Da_putSet (k : Nat) (v1 : Int32) (s : St) : Option St :=
  (f_Da_put k v1 0 0 s).bind fun q1 =>
  some q1
set_option maxHeartbeats 4000000 in
set_option maxRecDepth 100000 in
theorem t_Da_putSet (G : GG) (hR : gR G = rmx 1 23) (hL : gL G = 2) (C : Cx SC G cX1_putSet RX1) {Acc : St → Prop} {k : Nat} (hk : isD k) (v1 : Int32) (s : St) (hr : ∀ v : St, Acc v → RtV SC G cX1_putSet v) : JJ SC G Acc (f_Da_putSet k v1 s) 0 [(0, .ref (ad G k)), (1, .int v1)] [] s := by
  unfold f_Da_putSet
  refine jr_aload_n C 0 rfl rfl dX1_putSet_0 ?_
  refine jr_iload_n C 1 rfl rfl dX1_putSet_1 ?_
  refine jr_iconst C ic_0 dX1_putSet_2 ?_
  refine jr_iconst C ic_0 dX1_putSet_3 ?_
  refine jr_bind (fun q1 e2 => ?_)
  refine jr_callVV C FX_1 km_X1_21 (oD hk).1 (oD hk).2 (rk hR rfl) (c_Da_put (gl G) hk v1 0 0 s e2) rfl rfl rfl (Nat.le_of_ble_eq_true rfl) dX1_putSet_4 ?_
  exact jr_end (fun h => hr q1 h _ _ dX1_putSet_7)
set_option maxRecDepth 100000 in
theorem c_Da_putSet (l : Launch) {k : Nat} (hk : isD k) (v1 : Int32) (s : St) {q : St} (h : f_Da_putSet k v1 s = some q) : CT SC l yX1_putSet cX1_putSet 2 none 1 23 (fun a => [.ref (a k), .int v1]) s q (fun _ => none) :=
  ct_V okX_C (by decide) (fun _ => Nat.le_of_ble_eq_true rfl) (fun G hl hR hL C hr => t_Da_putSet G hR hL C (Acc := fun v => v = q) hk v1 s (fun v hv => by rw [hv]; exact hr) ⟨_, h, rfl⟩)
noncomputable def f_Ma_goTo (B : Nat) (v1 : Int32) (s : St) : Option St :=
  lt (uI s B 9 v1) fun s1 =>
  gP (s1.2.2 (mq B)) fun p2 =>
  if (s1.1 B 9) < (s1.1 p2 3) then
  some s1
  else
  lt (uI s1 B 11 1) fun s5 =>
  some s5
set_option maxHeartbeats 4000000 in
set_option maxRecDepth 100000 in
theorem t_Ma_goTo (G : GG) (hR : gR G = rmx 0 0) (hL : gL G = 2) (C : Cx SC G cX5_goTo RX5) {Acc : St → Prop} {B : Nat} (hB : isM B) (v1 : Int32) (s : St) (hr : ∀ v : St, Acc v → RtV SC G cX5_goTo v) : JJ SC G Acc (f_Ma_goTo B v1 s) 0 [(0, .ref (ad G B)), (1, .int v1)] [] s := by
  unfold f_Ma_goTo
  refine jr_aload_n C 0 rfl rfl dX5_goTo_0 ?_
  refine jr_iload_n C 1 rfl rfl dX5_goTo_1 ?_
  refine jr_putI C FX_5 9 (oM_0 hB).1 (oM_0 hB).2 ff_5_9.1 ff_5_9.2 rfl rfl fl_X5_108 dX5_goTo_2 (jr_ltS fun s1 => ?_)
  refine jr_aload_n C 0 rfl rfl dX5_goTo_5 ?_
  refine jr_getI C FX_5 9 (oM_0 hB).1 (oM_0 hB).2 ff_5_9.1 ff_5_9.2 fl_X5_108 dX5_goTo_6 ?_
  refine jr_aload_n C 0 rfl rfl dX5_goTo_9 ?_
  refine jr_getP C FX_5 0 (oM_0 hB).1 (oM_0 hB).2 ff_5_0.1 ff_5_0.2 (fun hp => rM_p hB hp) fl_X5_60 dX5_goTo_10 (fun p2 h3 => ?_)
  refine jr_getI C FX_7 3 (oP_0 h3).1 (oP_0 h3).2 ff_7_3.1 ff_7_3.2 fl_X5_111 dX5_goTo_13 ?_
  refine jr_icmp_lt C (tgt := 24) dX5_goTo_16 (by decide) (fun h4 => ?_) (fun h4 => ?_)
  · refine jo_pos h4 ?_
    exact jr_end (fun h => hr s1 h _ _ dX5_goTo_24)
  refine jo_neg h4 ?_
  refine jr_aload_n C 0 rfl rfl dX5_goTo_19 ?_
  refine jr_iconst C ic_1 dX5_goTo_20 ?_
  refine jr_putI C FX_5 11 (oM_0 hB).1 (oM_0 hB).2 ff_5_11.1 ff_5_11.2 rfl rfl fl_X5_102 dX5_goTo_21 (jr_ltS fun s5 => ?_)
  exact jr_end (fun h => hr s5 h _ _ dX5_goTo_24)
set_option maxRecDepth 100000 in
theorem c_Ma_goTo (l : Launch) {B : Nat} (hB : isM B) (v1 : Int32) (s : St) {q : St} (h : f_Ma_goTo B v1 s = some q) : CT SC l yX5_goTo cX5_goTo 2 none 0 0 (fun a => [.ref (a B), .int v1]) s q (fun _ => none) :=
  ct_V okX_C (by decide) (fun _ => Nat.le_of_ble_eq_true rfl) (fun G hl hR hL C hr => t_Ma_goTo G hR hL C (Acc := fun v => v = q) hB v1 s (fun v hv => by rw [hv]; exact hr) ⟨_, h, rfl⟩)
noncomputable def f_Ma_restart_L35 (B : Nat) (v4 : Int32) (s : St) : Option ((Int32 × St) ⊕ (Int32 × St)) :=
  if 7 ≤ v4 then
  some (.inr (v4, s))
  else
  gd v4 8 <|
  (f_Me_nextFilling B s).bind fun q12 =>
  (f_Da_put (B + 26 + (v4 : Int32).toNatClampNeg) (q12.1) (-1) (v4 + 1) (q12.2)).bind fun q14 =>
  some (.inl ((v4 + 1), q14))
set_option maxHeartbeats 4000000 in
set_option maxRecDepth 100000 in
theorem t_Ma_restart_L35 (G : GG) (hR : gR G = rmx 2 44) (hL : gL G = 5) (C : Cx SC G cX5_restart RX5) {Acc : ((Int32 × St) ⊕ (Int32 × St)) → Prop} {B : Nat} (hB : isM B) (v4 : Int32) (s : St) (hb1 : ∀ (a4 : Int32) (t : St), Acc (.inl (a4, t)) → KK SC G 35 [(0, .ref (ad G B)), (4, .int a4)] [] t) (hx1 : ∀ (a4 : Int32) (t : St), Acc (.inr (a4, t)) → KK SC G 70 [(0, .ref (ad G B)), (4, .int a4)] [] t) : JJ SC G Acc (f_Ma_restart_L35 B v4 s) 35 [(0, .ref (ad G B)), (4, .int v4)] [] s := by
  unfold f_Ma_restart_L35
  refine jr_iload C 1 rfl dX5_restart_35 ?_
  refine jr_bipush C bp_7 dX5_restart_37 ?_
  refine jr_icmp_ge C (tgt := 70) dX5_restart_39 (by decide) (fun h10 => ?_) (fun h10 => ?_)
  · refine jo_pos h10 ?_
    exact jr_end (fun h => hx1 v4 s h)
  refine jo_neg h10 ?_
  refine jr_aload_n C 0 rfl rfl dX5_restart_42 ?_
  refine jr_getR C FX_5 5 (oM_0 hB).1 (oM_0 hB).2 ff_5_5.1 ff_5_5.2 (rM_0_5 _ hB) fl_X5_41 dX5_restart_43 ?_
  refine jr_iload C 1 rfl dX5_restart_46 ?_
  refine jr_aald C (oM_25 hB).1 (oM_25 hB).2.1 (oM_25 hB).2.2 (fun _ => rM_r _ hB) dX5_restart_48 (fun h11 => ?_)
  refine jr_aload_n C 0 rfl rfl dX5_restart_49 ?_
  refine jr_getR C FX_5 1 (oM_0 hB).1 (oM_0 hB).2 ff_5_1.1 ff_5_1.2 (rM_0_1 _ hB) fl_X5_12 dX5_restart_50 ?_
  refine jr_bind (fun q12 e13 => ?_)
  refine jr_callVI C FX_6 km_X5_75 (oM_1 hB).1 (oM_1 hB).2 (rk hR rfl) (c_Me_nextFilling (gl G) hB s e13) rfl rfl rfl (Nat.le_of_ble_eq_true rfl) dX5_restart_53 ?_
  refine jr_iconst C ic_m1 dX5_restart_56 ?_
  refine jr_iload C 1 rfl dX5_restart_57 ?_
  refine jr_iconst C ic_1 dX5_restart_59 ?_
  refine jr_iadd C dX5_restart_60 ?_
  refine jr_bind (fun q14 e15 => ?_)
  refine jr_callVV C FX_1 km_X5_79 (oD (dM_r hB h11)).1 (oD (dM_r hB h11)).2 (rk hR rfl) (c_Da_put (gl G) (dM_r hB h11) (q12.1) (-1) (v4 + 1) (q12.2) e15) rfl rfl rfl (Nat.le_of_ble_eq_true rfl) dX5_restart_61 ?_
  refine jr_iinc C 1 rfl ii_1 (lv' := [(4, .int (v4 + 1)), (0, .ref (ad G B))]) (ltL hL rfl) rfl dX5_restart_64 ?_
  refine jr_goto C (tgt := 35) dX5_restart_67 (by decide) ?_
  refine jr_lv [1, 0] rfl ?_
  exact jr_end (fun h => hb1 (v4 + 1) q14 h)
noncomputable def f_Ma_restart (B : Nat) (p1 : Nat) (v2 : Int32) (v3 : Int32) (s : St) : Option St :=
  lt (uR s (mq B) p1) fun s1 =>
  gz v3 <|
  lt (uI s1 B 8 v3) fun s2 =>
  (f_Me_clear B v2 s2).bind fun q4 =>
  (f_He_clear B q4).bind fun q6 =>
  (f_Lg_clear B q6).bind fun q8 =>
  (wh (fun a : (Int32 × St) => f_Ma_restart_L35 B a.1 a.2) (0, q8)).bind (fun b16 =>
  gd 7 8 <|
  (f_Da_putSet (B + 26 + (7 : Int32).toNatClampNeg) 4096 (b16.2)).bind fun q18 =>
  lt (uI q18 B 12 0) fun s20 =>
  lt (uI s20 B 13 7) fun s21 =>
  lt (uI s21 B 14 0) fun s22 =>
  lt (uI s22 B 16 0) fun s23 =>
  lt (uI s23 B 18 0) fun s24 =>
  lt (uI s24 B 11 0) fun s25 =>
  (f_Ma_goTo B 0 s25).bind fun q26 =>
  some q26)
set_option maxHeartbeats 4000000 in
set_option maxRecDepth 100000 in
theorem t_Ma_restart (G : GG) (hR : gR G = rmx 2 44) (hL : gL G = 5) (C : Cx SC G cX5_restart RX5) {Acc : St → Prop} {B : Nat} (hB : isM B) {p1 : Nat} (hp1 : isP p1) (v2 : Int32) (v3 : Int32) (s : St) (hr : ∀ v : St, Acc v → RtV SC G cX5_restart v) : JJ SC G Acc (f_Ma_restart B p1 v2 v3 s) 0 [(0, .ref (ad G B)), (1, .ref (ad G p1)), (2, .int v2), (3, .int v3)] [] s := by
  unfold f_Ma_restart
  refine jr_aload_n C 0 rfl rfl dX5_restart_0 ?_
  refine jr_aload_n C 1 rfl rfl dX5_restart_1 ?_
  refine jr_putR C FX_5 0 (oM_0 hB).1 (oM_0 hB).2 ff_5_0.1 ff_5_0.2 rfl (Or.inl rfl) (pne hp1) (rm_p hB) (hu_m hB) fl_X5_60 dX5_restart_2 (jr_ltS fun s1 => ?_)
  refine jr_aload_n C 0 rfl rfl dX5_restart_5 ?_
  refine jr_iload_n C 3 rfl rfl dX5_restart_6 ?_
  refine jo_gz (fun h3 => ?_)
  refine jr_putZ C FX_5 8 (oM_0 hB).1 (oM_0 hB).2 ff_5_8.1 ff_5_8.2 rfl rfl h3 fl_X5_64 dX5_restart_7 (jr_ltS fun s2 => ?_)
  refine jr_aload_n C 0 rfl rfl dX5_restart_10 ?_
  refine jr_getR C FX_5 1 (oM_0 hB).1 (oM_0 hB).2 ff_5_1.1 ff_5_1.2 (rM_0_1 _ hB) fl_X5_12 dX5_restart_11 ?_
  refine jr_iload_n C 2 rfl rfl dX5_restart_14 ?_
  refine jr_bind (fun q4 e5 => ?_)
  refine jr_callVV C FX_6 km_X5_68 (oM_1 hB).1 (oM_1 hB).2 (rk hR rfl) (c_Me_clear (gl G) hB v2 s2 e5) rfl rfl rfl (Nat.le_of_ble_eq_true rfl) dX5_restart_15 ?_
  refine jr_aload_n C 0 rfl rfl dX5_restart_18 ?_
  refine jr_getR C FX_5 2 (oM_0 hB).1 (oM_0 hB).2 ff_5_2.1 ff_5_2.2 (rM_0_2 _ hB) fl_X5_21 dX5_restart_19 ?_
  refine jr_bind (fun q6 e7 => ?_)
  refine jr_callVV C FX_2 km_X5_72 (oM_6 hB).1 (oM_6 hB).2 (rk hR rfl) (c_He_clear (gl G) hB q4 e7) rfl rfl rfl (Nat.le_of_ble_eq_true rfl) dX5_restart_22 ?_
  refine jr_aload_n C 0 rfl rfl dX5_restart_25 ?_
  refine jr_getR C FX_5 4 (oM_0 hB).1 (oM_0 hB).2 ff_5_4.1 ff_5_4.2 (rM_0_4 _ hB) fl_X5_35 dX5_restart_26 ?_
  refine jr_bind (fun q8 e9 => ?_)
  refine jr_callVV C FX_4 km_X5_74 (oM_17 hB).1 (oM_17 hB).2 (rk hR rfl) (c_Lg_clear (gl G) hB q6 e9) rfl rfl rfl (Nat.le_of_ble_eq_true rfl) dX5_restart_29 ?_
  refine jr_iconst C ic_0 dX5_restart_32 ?_
  refine jr_istore C (lv' := [(4, .int 0), (0, .ref (ad G B)), (1, .ref (ad G p1)), (2, .int v2), (3, .int v3)]) (ltL hL rfl) rfl dX5_restart_33 ?_
  refine jr_lv [1, 0] rfl ?_
  refine jr_loopB (pc := 35) (pcx := 70) (f := fun a : (Int32 × St) => f_Ma_restart_L35 B a.1 a.2) (fun a : (Int32 × St) => [(0, .ref (ad G B)), (4, .int (a.1))]) (fun a : (Int32 × St) => a.2) (0, q8) (fun a => t_Ma_restart_L35 G hR hL C hB a.1 a.2 (fun _ _ h => h) (fun _ _ h => h)) (fun b16 => ?_)
  refine jr_aload_n C 0 rfl rfl dX5_restart_70 ?_
  refine jr_getR C FX_5 5 (oM_0 hB).1 (oM_0 hB).2 ff_5_5.1 ff_5_5.2 (rM_0_5 _ hB) fl_X5_41 dX5_restart_71 ?_
  refine jr_bipush C bp_7 dX5_restart_74 ?_
  refine jr_aald C (oM_25 hB).1 (oM_25 hB).2.1 (oM_25 hB).2.2 (fun _ => rM_r _ hB) dX5_restart_76 (fun h17 => ?_)
  refine jr_sipush C sp_4096 dX5_restart_77 ?_
  refine jr_bind (fun q18 e19 => ?_)
  refine jr_callVV C FX_1 km_X5_83 (oD (dM_r hB h17)).1 (oD (dM_r hB h17)).2 (rk hR rfl) (c_Da_putSet (gl G) (dM_r hB h17) 4096 (b16.2) e19) rfl rfl rfl (Nat.le_of_ble_eq_true rfl) dX5_restart_80 ?_
  refine jr_aload_n C 0 rfl rfl dX5_restart_83 ?_
  refine jr_iconst C ic_0 dX5_restart_84 ?_
  refine jr_putI C FX_5 12 (oM_0 hB).1 (oM_0 hB).2 ff_5_12.1 ff_5_12.2 rfl rfl fl_X5_86 dX5_restart_85 (jr_ltS fun s20 => ?_)
  refine jr_aload_n C 0 rfl rfl dX5_restart_88 ?_
  refine jr_bipush C bp_7 dX5_restart_89 ?_
  refine jr_putI C FX_5 13 (oM_0 hB).1 (oM_0 hB).2 ff_5_13.1 ff_5_13.2 rfl rfl fl_X5_90 dX5_restart_91 (jr_ltS fun s21 => ?_)
  refine jr_aload_n C 0 rfl rfl dX5_restart_94 ?_
  refine jr_iconst C ic_0 dX5_restart_95 ?_
  refine jr_putI C FX_5 14 (oM_0 hB).1 (oM_0 hB).2 ff_5_14.1 ff_5_14.2 rfl rfl fl_X5_93 dX5_restart_96 (jr_ltS fun s22 => ?_)
  refine jr_aload_n C 0 rfl rfl dX5_restart_99 ?_
  refine jr_iconst C ic_0 dX5_restart_100 ?_
  refine jr_putI C FX_5 16 (oM_0 hB).1 (oM_0 hB).2 ff_5_16.1 ff_5_16.2 rfl rfl fl_X5_96 dX5_restart_101 (jr_ltS fun s23 => ?_)
  refine jr_aload_n C 0 rfl rfl dX5_restart_104 ?_
  refine jr_iconst C ic_0 dX5_restart_105 ?_
  refine jr_putI C FX_5 18 (oM_0 hB).1 (oM_0 hB).2 ff_5_18.1 ff_5_18.2 rfl rfl fl_X5_99 dX5_restart_106 (jr_ltS fun s24 => ?_)
  refine jr_aload_n C 0 rfl rfl dX5_restart_109 ?_
  refine jr_iconst C ic_0 dX5_restart_110 ?_
  refine jr_putI C FX_5 11 (oM_0 hB).1 (oM_0 hB).2 ff_5_11.1 ff_5_11.2 rfl rfl fl_X5_102 dX5_restart_111 (jr_ltS fun s25 => ?_)
  refine jr_aload_n C 0 rfl rfl dX5_restart_114 ?_
  refine jr_iconst C ic_0 dX5_restart_115 ?_
  refine jr_bind (fun q26 e27 => ?_)
  refine jr_callVV C FX_5 km_X5_105 (oM_0 hB).1 (oM_0 hB).2 (rk hR rfl) (c_Ma_goTo (gl G) hB 0 s25 e27) rfl rfl rfl (Nat.le_of_ble_eq_true rfl) dX5_restart_116 ?_
  exact jr_end (fun h => hr q26 h _ _ dX5_restart_119)
set_option maxRecDepth 100000 in
theorem c_Ma_restart (l : Launch) {B : Nat} (hB : isM B) {p1 : Nat} (hp1 : isP p1) (v2 : Int32) (v3 : Int32) (s : St) {q : St} (h : f_Ma_restart B p1 v2 v3 s = some q) : CT SC l yX5_restart cX5_restart 5 none 2 44 (fun a => [.ref (a B), .ref (a p1), .int v2, .int v3]) s q (fun _ => none) :=
  ct_V okX_C (by decide) (fun _ => Nat.le_of_ble_eq_true rfl) (fun G hl hR hL C hr => t_Ma_restart G hR hL C (Acc := fun v => v = q) hB hp1 v2 v3 s (fun v hv => by rw [hv]; exact hr) ⟨_, h, rfl⟩)
noncomputable def f_SB_assemble  (s : St) : Option (Int32 × St) :=
  lt (s.1 0 1) fun x1 =>
  lt (uI s 0 1 0) fun s2 =>
  gP (s2.2.2 1) fun p3 =>
  (f_As_translate p3 x1 s2).bind fun q5 =>
  if q5.1 = 0 then
  some ((-1), q5.2)
  else
  gP (q5.2.2.2 0) fun p8 =>
  gP (q5.2.2.2 1) fun p10 =>
  lt (uR (q5.2) 0 p10) fun s12 =>
  lt (uR s12 1 p8) fun s13 =>
  lt (uI s13 0 5 1) fun s14 =>
  (f_Lg_dropSuppressions 20 s14).bind fun q15 =>
  gP (q15.2.2 0) fun p17 =>
  (f_Ma_restart 20 p17 0 0 q15).bind fun q19 =>
  gP (q19.2.2 0) fun p21 =>
  some ((q19.1 p21 3), q19)
set_option maxHeartbeats 4000000 in
set_option maxRecDepth 100000 in
theorem t_SB_assemble (G : GG) (hR : gR G = rmx 8 201) (hL : gL G = 3) (C : Cx SC G cX11_assemble RX11) {Acc : (Int32 × St) → Prop}   (s : St) (hr : ∀ v : (Int32 × St), Acc v → RtI SC G cX11_assemble v.1 v.2) : JJ SC G Acc (f_SB_assemble s) 0 [(0, .ref (ad G 0))] [] s := by
  unfold f_SB_assemble
  refine jr_aload_n C 0 rfl rfl dX11_assemble_0 ?_
  refine jr_getI C FX_9 1 oC_0.1 oC_0.2 ff_9_1.1 ff_9_1.2 fl_X11_45 dX11_assemble_1 ?_
  refine jr_ltI (fun x1 => ?_)
  refine jr_istore_n C (lv' := [(1, .int x1), (0, .ref (ad G 0))]) (ltL hL rfl) rfl rfl dX11_assemble_4 ?_
  refine jr_aload_n C 1 rfl rfl dX11_assemble_5 ?_
  refine jr_iconst C ic_0 dX11_assemble_6 ?_
  refine jr_putI C FX_9 1 oC_0.1 oC_0.2 ff_9_1.1 ff_9_1.2 rfl rfl fl_X11_45 dX11_assemble_7 (jr_ltS fun s2 => ?_)
  refine jr_aload_n C 1 rfl rfl dX11_assemble_10 ?_
  refine jr_getR C FX_9 2 oC_0.1 oC_0.2 ff_9_2.1 ff_9_2.2 rfl fl_X11_16 dX11_assemble_11 ?_
  refine jr_aload_n C 1 rfl rfl dX11_assemble_14 ?_
  refine jr_getR C FX_9 0 oC_0.1 oC_0.2 ff_9_0.1 ff_9_0.2 rfl fl_X11_9 dX11_assemble_15 ?_
  refine jr_iload_n C 0 rfl rfl dX11_assemble_18 ?_
  refine jr_aload_n C 1 rfl rfl dX11_assemble_19 ?_
  refine jr_getP C FX_9 4 oC_0.1 oC_0.2 ff_9_4.1 ff_9_4.2 (fun hp => rX_p rfl (pne hp)) fl_X11_27 dX11_assemble_20 (fun p3 h4 => ?_)
  refine jr_bind (fun q5 e6 => ?_)
  refine jr_callVI C FX_0 km_X11_52 oC_2.1 oC_2.2 (rk hR rfl) (c_As_translate (gl G) h4 x1 s2 e6) rfl rfl rfl (Nat.le_of_ble_eq_true rfl) dX11_assemble_23 ?_
  refine jr_if_ne C (tgt := 31) dX11_assemble_26 (by decide) (fun h7 => ?_) (fun h7 => ?_)
  · refine jo_neg h7 ?_
    refine jr_aload_n C 1 rfl rfl dX11_assemble_31 ?_
    refine jr_getP C FX_9 3 oC_0.1 oC_0.2 ff_9_3.1 ff_9_3.2 (fun hp => rX_p rfl (pne hp)) fl_X11_23 dX11_assemble_32 (fun p8 h9 => ?_)
    refine jr_astore_n C (lv' := [(2, .ref (ad G p8)), (1, .int x1), (0, .ref (ad G 0))]) (ltL hL rfl) rfl rfl dX11_assemble_35 ?_
    refine jr_aload_n C 2 rfl rfl dX11_assemble_36 ?_
    refine jr_aload_n C 2 rfl rfl dX11_assemble_37 ?_
    refine jr_getP C FX_9 4 oC_0.1 oC_0.2 ff_9_4.1 ff_9_4.2 (fun hp => rX_p rfl (pne hp)) fl_X11_27 dX11_assemble_38 (fun p10 h11 => ?_)
    refine jr_putR C FX_9 3 oC_0.1 oC_0.2 ff_9_3.1 ff_9_3.2 rfl (Or.inl rfl) (pne h11) rfl hu_0 fl_X11_23 dX11_assemble_41 (jr_ltS fun s12 => ?_)
    refine jr_aload_n C 2 rfl rfl dX11_assemble_44 ?_
    refine jr_aload_n C 0 rfl rfl dX11_assemble_45 ?_
    refine jr_putR C FX_9 4 oC_0.1 oC_0.2 ff_9_4.1 ff_9_4.2 rfl (Or.inl rfl) (pne h9) rfl hu_1 fl_X11_27 dX11_assemble_46 (jr_ltS fun s13 => ?_)
    refine jr_aload_n C 2 rfl rfl dX11_assemble_49 ?_
    refine jr_iconst C ic_1 dX11_assemble_50 ?_
    refine jr_putZ C FX_9 5 oC_0.1 oC_0.2 ff_9_5.1 ff_9_5.2 rfl rfl (Or.inr rfl) fl_X11_56 dX11_assemble_51 (jr_ltS fun s14 => ?_)
    refine jr_aload_n C 2 rfl rfl dX11_assemble_54 ?_
    refine jr_getR C FX_9 6 oC_0.1 oC_0.2 ff_9_6.1 ff_9_6.2 rfl fl_X11_33 dX11_assemble_55 ?_
    refine jr_getR C FX_5 4 (oM_0 isM_20).1 (oM_0 isM_20).2 ff_5_4.1 ff_5_4.2 (rM_0_4 _ isM_20) fl_X11_60 dX11_assemble_58 ?_
    refine jr_bind (fun q15 e16 => ?_)
    refine jr_callVV C FX_4 km_X11_64 (oM_17 isM_20).1 (oM_17 isM_20).2 (rk hR rfl) (c_Lg_dropSuppressions (gl G) isM_20 s14 e16) rfl rfl rfl (Nat.le_of_ble_eq_true rfl) dX11_assemble_61 ?_
    refine jr_aload_n C 2 rfl rfl dX11_assemble_64 ?_
    refine jr_getR C FX_9 6 oC_0.1 oC_0.2 ff_9_6.1 ff_9_6.2 rfl fl_X11_33 dX11_assemble_65 ?_
    refine jr_aload_n C 2 rfl rfl dX11_assemble_68 ?_
    refine jr_getP C FX_9 3 oC_0.1 oC_0.2 ff_9_3.1 ff_9_3.2 (fun hp => rX_p rfl (pne hp)) fl_X11_23 dX11_assemble_69 (fun p17 h18 => ?_)
    refine jr_iconst C ic_0 dX11_assemble_72 ?_
    refine jr_iconst C ic_0 dX11_assemble_73 ?_
    refine jr_bind (fun q19 e20 => ?_)
    refine jr_callVV C FX_5 km_X11_69 (oM_0 isM_20).1 (oM_0 isM_20).2 (rk hR rfl) (c_Ma_restart (gl G) isM_20 h18 0 0 q15 e20) rfl rfl rfl (Nat.le_of_ble_eq_true rfl) dX11_assemble_74 ?_
    refine jr_aload_n C 2 rfl rfl dX11_assemble_77 ?_
    refine jr_getP C FX_9 3 oC_0.1 oC_0.2 ff_9_3.1 ff_9_3.2 (fun hp => rX_p rfl (pne hp)) fl_X11_23 dX11_assemble_78 (fun p21 h22 => ?_)
    refine jr_getI C FX_7 3 (oP_0 h22).1 (oP_0 h22).2 ff_7_3.1 ff_7_3.2 fl_X11_73 dX11_assemble_81 ?_
    exact jr_end (fun h => hr ((q19.1 p21 3), q19) h _ _ dX11_assemble_84)
  refine jo_pos h7 ?_
  refine jr_iconst C ic_m1 dX11_assemble_29 ?_
  exact jr_end (fun h => hr ((-1), q5.2) h _ _ dX11_assemble_30)
set_option maxRecDepth 100000 in
theorem c_SB_assemble (l : Launch)   (s : St) {q : (Int32 × St)} (h : f_SB_assemble s = some q) : CT SC l yX11_assemble cX11_assemble 3 (some .int) 8 201 (fun a => [.ref (a 0)]) s q.2 (fun _ => some (.int q.1)) :=
  ct_I okX_C (by decide) (fun _ => Nat.le_of_ble_eq_true rfl) (fun G hl hR hL C hr => t_SB_assemble G hR hL C (Acc := fun v => v = q)   s (fun v hv => by rw [hv]; exact hr) ⟨_, h, rfl⟩)
noncomputable def f_SB_fault (v1 : Int32) (s : St) : Option Int32 :=
  if v1 = 0 then
  some (s.1 2 10)
  else if v1 = 1 then
  some (s.1 2 11)
  else if v1 = 2 then
  some (s.1 2 12)
  else some (-1)
set_option maxHeartbeats 4000000 in
set_option maxRecDepth 100000 in
theorem t_SB_fault (G : GG) (hR : gR G = rmx 0 0) (hL : gL G = 2) (C : Cx SC G cX11_fault RX11) {Acc : Int32 → Prop}  (v1 : Int32) (s : St) (hr : ∀ v : Int32, Acc v → RtI SC G cX11_fault v s) : JJ SC G Acc (f_SB_fault v1 s) 0 [(0, .ref (ad G 0)), (1, .int v1)] [] s := by
  unfold f_SB_fault
  refine jr_iload_n C 1 rfl rfl dX11_fault_0 ?_
  refine jo_cases (fun h1 => ?_) (fun h1 => ?_)
  · refine jr_tabIn C dX11_fault_1 h1 (by decide) (by decide) rfl (tgt := 28) (by decide) ?_
    refine jr_aload_n C 0 rfl rfl dX11_fault_28 ?_
    refine jr_getR C FX_9 2 oC_0.1 oC_0.2 ff_9_2.1 ff_9_2.2 rfl fl_X11_16 dX11_fault_29 ?_
    refine jr_getI C FX_0 10 oC_2.1 oC_2.2 ff_0_10.1 ff_0_10.2 fl_X11_76 dX11_fault_32 ?_
    exact jr_end (fun h => hr (s.1 2 10) h _ _ dX11_fault_35)
  refine jo_cases (fun h2 => ?_) (fun h2 => ?_)
  · refine jr_tabIn C dX11_fault_1 h2 (by decide) (by decide) rfl (tgt := 36) (by decide) ?_
    refine jr_aload_n C 0 rfl rfl dX11_fault_36 ?_
    refine jr_getR C FX_9 2 oC_0.1 oC_0.2 ff_9_2.1 ff_9_2.2 rfl fl_X11_16 dX11_fault_37 ?_
    refine jr_getI C FX_0 11 oC_2.1 oC_2.2 ff_0_11.1 ff_0_11.2 fl_X11_79 dX11_fault_40 ?_
    exact jr_end (fun h => hr (s.1 2 11) h _ _ dX11_fault_43)
  refine jo_cases (fun h3 => ?_) (fun h3 => ?_)
  · refine jr_tabIn C dX11_fault_1 h3 (by decide) (by decide) rfl (tgt := 44) (by decide) ?_
    refine jr_aload_n C 0 rfl rfl dX11_fault_44 ?_
    refine jr_getR C FX_9 2 oC_0.1 oC_0.2 ff_9_2.1 ff_9_2.2 rfl fl_X11_16 dX11_fault_45 ?_
    refine jr_getI C FX_0 12 oC_2.1 oC_2.2 ff_0_12.1 ff_0_12.2 fl_X11_82 dX11_fault_48 ?_
    exact jr_end (fun h => hr (s.1 2 12) h _ _ dX11_fault_51)
  refine jr_tabOut C dX11_fault_1 (by have e0 := lv_neT h1 (a := 0) (by decide); have e1 := lv_neT h2 (a := 1) (by decide); have e2 := lv_neT h3 (a := 2) (by decide); omega) (tgt := 52) (by decide) ?_
  refine jr_iconst C ic_m1 dX11_fault_52 ?_
  exact jr_end (fun h => hr (-1) h _ _ dX11_fault_53)
set_option maxRecDepth 100000 in
theorem c_SB_fault (l : Launch)  (v1 : Int32) (s : St) {q : Int32} (h : f_SB_fault v1 s = some q) : CT SC l yX11_fault cX11_fault 2 (some .int) 0 0 (fun a => [.ref (a 0), .int v1]) s s (fun _ => some (.int q)) :=
  ct_I okX_C (by decide) (fun _ => Nat.le_of_ble_eq_true rfl) (fun G hl hR hL C hr => t_SB_fault G hR hL C (Acc := fun v => v = q)  v1 s (fun v hv => by rw [hv]; exact hr) ⟨_, h, rfl⟩)
noncomputable def f_SB_begin_J37 (w0 : Int32) (w1 : Int32) (ow2 : Nat) (s : St) : Option (Int32 × St) :=
  (f_Ma_restart 20 ow2 w1 w0 s).bind fun q7 =>
  some (1, q7)
set_option maxHeartbeats 4000000 in
set_option maxRecDepth 100000 in
theorem t_SB_begin_J37 (G : GG) (hR : gR G = rmx 3 68) (hL : gL G = 3) (C : Cx SC G cX11_begin RX11) {Acc : (Int32 × St) → Prop} {ow2 : Nat} (how2 : isP ow2) (w0 : Int32) (w1 : Int32) (s : St) (hr : ∀ v : (Int32 × St), Acc v → RtZ SC G cX11_begin v.1 v.2) : JJ SC G Acc (f_SB_begin_J37 w0 w1 ow2 s) 37 [] [.int w0, .int w1, .ref (ad G ow2), .ref (ad G 20)] s := by
  unfold f_SB_begin_J37
  refine jr_bind (fun q7 e8 => ?_)
  refine jr_callVV C FX_5 km_X11_69 (oM_0 isM_20).1 (oM_0 isM_20).2 (rk hR rfl) (c_Ma_restart (gl G) isM_20 how2 w1 w0 s e8) rfl rfl rfl (Nat.le_of_ble_eq_true rfl) dX11_begin_37 ?_
  refine jr_iconst C ic_1 dX11_begin_40 ?_
  exact jr_end (fun h => hr (1, q7) h _ _ _ bN1 dX11_begin_41)
noncomputable def f_SB_begin (v1 : Int32) (v2 : Int32) (s : St) : Option (Int32 × St) :=
  if (s.1 0 5) = 0 then
  some (0, s)
  else
  if v2 < 0 then
  some (0, s)
  else
  if v2 ≤ 1 then
  (gP (s.2.2 0) fun p4 =>
  if v2 = 1 then
  f_SB_begin_J37 1 v1 p4 s
  else
  f_SB_begin_J37 0 v1 p4 s)
  else
  some (0, s)
set_option maxHeartbeats 4000000 in
set_option maxRecDepth 100000 in
theorem t_SB_begin (G : GG) (hR : gR G = rmx 3 68) (hL : gL G = 3) (C : Cx SC G cX11_begin RX11) {Acc : (Int32 × St) → Prop}  (v1 : Int32) (v2 : Int32) (s : St) (hr : ∀ v : (Int32 × St), Acc v → RtZ SC G cX11_begin v.1 v.2) : JJ SC G Acc (f_SB_begin v1 v2 s) 0 [(0, .ref (ad G 0)), (1, .int v1), (2, .int v2)] [] s := by
  unfold f_SB_begin
  refine jr_aload_n C 0 rfl rfl dX11_begin_0 ?_
  refine jr_getI C FX_9 5 oC_0.1 oC_0.2 ff_9_5.1 ff_9_5.2 fl_X11_56 dX11_begin_1 ?_
  refine jr_if_eq C (tgt := 16) dX11_begin_4 (by decide) (fun h1 => ?_) (fun h1 => ?_)
  · refine jo_pos h1 ?_
    refine jr_iconst C ic_0 dX11_begin_16 ?_
    exact jr_end (fun h => hr (0, s) h _ _ _ bN0 dX11_begin_17)
  refine jo_neg h1 ?_
  refine jr_iload_n C 2 rfl rfl dX11_begin_7 ?_
  refine jr_if_lt C (tgt := 16) dX11_begin_8 (by decide) (fun h2 => ?_) (fun h2 => ?_)
  · refine jo_pos h2 ?_
    refine jr_iconst C ic_0 dX11_begin_16 ?_
    exact jr_end (fun h => hr (0, s) h _ _ _ bN0 dX11_begin_17)
  refine jo_neg h2 ?_
  refine jr_iload_n C 2 rfl rfl dX11_begin_11 ?_
  refine jr_iconst C ic_1 dX11_begin_12 ?_
  refine jr_icmp_le C (tgt := 18) dX11_begin_13 (by decide) (fun h3 => ?_) (fun h3 => ?_)
  · refine jo_pos h3 ?_
    refine jr_aload_n C 0 rfl rfl dX11_begin_18 ?_
    refine jr_getR C FX_9 6 oC_0.1 oC_0.2 ff_9_6.1 ff_9_6.2 rfl fl_X11_33 dX11_begin_19 ?_
    refine jr_aload_n C 0 rfl rfl dX11_begin_22 ?_
    refine jr_getP C FX_9 3 oC_0.1 oC_0.2 ff_9_3.1 ff_9_3.2 (fun hp => rX_p rfl (pne hp)) fl_X11_23 dX11_begin_23 (fun p4 h5 => ?_)
    refine jr_iload_n C 1 rfl rfl dX11_begin_26 ?_
    refine jr_iload_n C 2 rfl rfl dX11_begin_27 ?_
    refine jr_iconst C ic_1 dX11_begin_28 ?_
    refine jr_icmp_ne C (tgt := 36) dX11_begin_29 (by decide) (fun h6 => ?_) (fun h6 => ?_)
    · refine jo_neg h6 ?_
      refine jr_iconst C ic_0 dX11_begin_36 ?_
      refine jr_lv [] rfl ?_
      exact t_SB_begin_J37 G hR hL C h5 0 v1 s hr
    refine jo_pos h6 ?_
    refine jr_iconst C ic_1 dX11_begin_32 ?_
    refine jr_goto C (tgt := 37) dX11_begin_33 (by decide) ?_
    refine jr_lv [] rfl ?_
    exact t_SB_begin_J37 G hR hL C h5 1 v1 s hr
  refine jo_neg h3 ?_
  refine jr_iconst C ic_0 dX11_begin_16 ?_
  exact jr_end (fun h => hr (0, s) h _ _ _ bN0 dX11_begin_17)
set_option maxRecDepth 100000 in
theorem c_SB_begin (l : Launch)  (v1 : Int32) (v2 : Int32) (s : St) {q : (Int32 × St)} (h : f_SB_begin v1 v2 s = some q) : CT SC l yX11_begin cX11_begin 3 (some .boolean) 3 68 (fun a => [.ref (a 0), .int v1, .int v2]) s q.2 (fun _ => some (.int q.1)) :=
  ct_Z okX_C (by decide) (fun _ => Nat.le_of_ble_eq_true rfl) (fun G hl hR hL C hr => t_SB_begin G hR hL C (Acc := fun v => v = q)  v1 v2 s (fun v hv => by rw [hv]; exact hr) ⟨_, h, rfl⟩)
noncomputable def f_Pr_addInput (P : Nat) (v1 : Int32) (s : St) : Option (Int32 × St) :=
  if (s.1 P 5) < 100 then
  (gd (s.1 P 5) 100 <|
  lt (uI s (P + 4) ((s.1 P 5) : Int32).toNatClampNeg v1) fun s2 =>
  lt (uI s2 P 5 ((s2.1 P 5) + 1)) fun s3 =>
  some ((s3.1 P 5), s3))
  else
  some ((-1), s)
set_option maxHeartbeats 4000000 in
set_option maxRecDepth 100000 in
theorem t_Pr_addInput (G : GG) (hR : gR G = rmx 0 0) (hL : gL G = 2) (C : Cx SC G cX8_addInput RX8) {Acc : (Int32 × St) → Prop} {P : Nat} (hP : isP P) (v1 : Int32) (s : St) (hr : ∀ v : (Int32 × St), Acc v → RtI SC G cX8_addInput v.1 v.2) : JJ SC G Acc (f_Pr_addInput P v1 s) 0 [(0, .ref (ad G P)), (1, .int v1)] [] s := by
  unfold f_Pr_addInput
  refine jr_aload_n C 0 rfl rfl dX8_addInput_0 ?_
  refine jr_getI C FX_7 5 (oP_0 hP).1 (oP_0 hP).2 ff_7_5.1 ff_7_5.2 fl_X8_29 dX8_addInput_1 ?_
  refine jr_bipush C bp_100 dX8_addInput_4 ?_
  refine jr_icmp_lt C (tgt := 11) dX8_addInput_6 (by decide) (fun h1 => ?_) (fun h1 => ?_)
  · refine jo_pos h1 ?_
    refine jr_aload_n C 0 rfl rfl dX8_addInput_11 ?_
    refine jr_getR C FX_7 4 (oP_0 hP).1 (oP_0 hP).2 ff_7_4.1 ff_7_4.2 (rP_0_4 _ hP) fl_X8_22 dX8_addInput_12 ?_
    refine jr_aload_n C 0 rfl rfl dX8_addInput_15 ?_
    refine jr_getI C FX_7 5 (oP_0 hP).1 (oP_0 hP).2 ff_7_5.1 ff_7_5.2 fl_X8_29 dX8_addInput_16 ?_
    refine jr_iload_n C 1 rfl rfl dX8_addInput_19 ?_
    refine jr_iast C (oP_4 hP).1 (oP_4 hP).2.1 (oP_4 hP).2.2 dX8_addInput_20 (jr_ltS fun s2 => ?_)
    refine jr_aload_n C 0 rfl rfl dX8_addInput_21 ?_
    refine jr_dup C rfl dX8_addInput_22 ?_
    refine jr_getI C FX_7 5 (oP_0 hP).1 (oP_0 hP).2 ff_7_5.1 ff_7_5.2 fl_X8_29 dX8_addInput_23 ?_
    refine jr_iconst C ic_1 dX8_addInput_26 ?_
    refine jr_iadd C dX8_addInput_27 ?_
    refine jr_putI C FX_7 5 (oP_0 hP).1 (oP_0 hP).2 ff_7_5.1 ff_7_5.2 rfl rfl fl_X8_29 dX8_addInput_28 (jr_ltS fun s3 => ?_)
    refine jr_aload_n C 0 rfl rfl dX8_addInput_31 ?_
    refine jr_getI C FX_7 5 (oP_0 hP).1 (oP_0 hP).2 ff_7_5.1 ff_7_5.2 fl_X8_29 dX8_addInput_32 ?_
    exact jr_end (fun h => hr ((s3.1 P 5), s3) h _ _ dX8_addInput_35)
  refine jo_neg h1 ?_
  refine jr_iconst C ic_m1 dX8_addInput_9 ?_
  exact jr_end (fun h => hr ((-1), s) h _ _ dX8_addInput_10)
set_option maxRecDepth 100000 in
theorem c_Pr_addInput (l : Launch) {P : Nat} (hP : isP P) (v1 : Int32) (s : St) {q : (Int32 × St)} (h : f_Pr_addInput P v1 s = some q) : CT SC l yX8_addInput cX8_addInput 2 (some .int) 0 0 (fun a => [.ref (a P), .int v1]) s q.2 (fun _ => some (.int q.1)) :=
  ct_I okX_C (by decide) (fun _ => Nat.le_of_ble_eq_true rfl) (fun G hl hR hL C hr => t_Pr_addInput G hR hL C (Acc := fun v => v = q) hP v1 s (fun v hv => by rw [hv]; exact hr) ⟨_, h, rfl⟩)
noncomputable def f_SB_input (v1 : Int32) (s : St) : Option (Int32 × St) :=
  if (s.1 0 5) = 0 then
  some ((-1), s)
  else
  gP (s.2.2 0) fun p2 =>
  (f_Pr_addInput p2 v1 s).bind fun q4 =>
  some (q4.1, q4.2)
set_option maxHeartbeats 4000000 in
set_option maxRecDepth 100000 in
theorem t_SB_input (G : GG) (hR : gR G = rmx 1 21) (hL : gL G = 2) (C : Cx SC G cX11_input RX11) {Acc : (Int32 × St) → Prop}  (v1 : Int32) (s : St) (hr : ∀ v : (Int32 × St), Acc v → RtI SC G cX11_input v.1 v.2) : JJ SC G Acc (f_SB_input v1 s) 0 [(0, .ref (ad G 0)), (1, .int v1)] [] s := by
  unfold f_SB_input
  refine jr_aload_n C 0 rfl rfl dX11_input_0 ?_
  refine jr_getI C FX_9 5 oC_0.1 oC_0.2 ff_9_5.1 ff_9_5.2 fl_X11_56 dX11_input_1 ?_
  refine jr_if_eq C (tgt := 18) dX11_input_4 (by decide) (fun h1 => ?_) (fun h1 => ?_)
  · refine jo_pos h1 ?_
    refine jr_iconst C ic_m1 dX11_input_18 ?_
    exact jr_end (fun h => hr ((-1), s) h _ _ dX11_input_19)
  refine jo_neg h1 ?_
  refine jr_aload_n C 0 rfl rfl dX11_input_7 ?_
  refine jr_getP C FX_9 3 oC_0.1 oC_0.2 ff_9_3.1 ff_9_3.2 (fun hp => rX_p rfl (pne hp)) fl_X11_23 dX11_input_8 (fun p2 h3 => ?_)
  refine jr_iload_n C 1 rfl rfl dX11_input_11 ?_
  refine jr_bind (fun q4 e5 => ?_)
  refine jr_callVI C FX_7 km_X11_85 (oP_0 h3).1 (oP_0 h3).2 (rk hR rfl) (c_Pr_addInput (gl G) h3 v1 s e5) rfl rfl rfl (Nat.le_of_ble_eq_true rfl) dX11_input_12 ?_
  refine jr_goto C (tgt := 19) dX11_input_15 (by decide) ?_
  exact jr_end (fun h => hr (q4.1, q4.2) h _ _ dX11_input_19)
set_option maxRecDepth 100000 in
theorem c_SB_input (l : Launch)  (v1 : Int32) (s : St) {q : (Int32 × St)} (h : f_SB_input v1 s = some q) : CT SC l yX11_input cX11_input 2 (some .int) 1 21 (fun a => [.ref (a 0), .int v1]) s q.2 (fun _ => some (.int q.1)) :=
  ct_I okX_C (by decide) (fun _ => Nat.le_of_ble_eq_true rfl) (fun G hl hR hL C hr => t_SB_input G hR hL C (Acc := fun v => v = q)  v1 s (fun v hv => by rw [hv]; exact hr) ⟨_, h, rfl⟩)
noncomputable def f_Lg_addSuppression_J24 (B : Nat) (v1 : Int32) (v2 : Int32) (v3 : Int32) (w0 : Int32) (s : St) : Option (Int32 × St) :=
  if w0 = 0 then
  (if (s.1 (B + 17) 10) < 20 then
  (gd (s.1 (B + 17) 10) 20 <|
  lt (uI s (B + 22) ((s.1 (B + 17) 10) : Int32).toNatClampNeg v1) fun s4 =>
  gd (s4.1 (B + 17) 10) 20 <|
  lt (uI s4 (B + 23) ((s4.1 (B + 17) 10) : Int32).toNatClampNeg v2) fun s5 =>
  gd (s5.1 (B + 17) 10) 20 <|
  lt (uI s5 (B + 24) ((s5.1 (B + 17) 10) : Int32).toNatClampNeg v3) fun s6 =>
  lt (uI s6 (B + 17) 10 ((s6.1 (B + 17) 10) + 1)) fun s7 =>
  some ((s7.1 (B + 17) 10), s7))
  else
  some ((-1), s))
  else
  some ((-1), s)
set_option maxHeartbeats 4000000 in
set_option maxRecDepth 100000 in
theorem t_Lg_addSuppression_J24 (G : GG) (hR : gR G = rmx 0 0) (hL : gL G = 5) (C : Cx SC G cX4_addSuppression RX4) {Acc : (Int32 × St) → Prop} {B : Nat} (hB : isM B) (v1 : Int32) (v2 : Int32) (v3 : Int32) (w0 : Int32) (s : St) (hr : ∀ v : (Int32 × St), Acc v → RtI SC G cX4_addSuppression v.1 v.2) : JJ SC G Acc (f_Lg_addSuppression_J24 B v1 v2 v3 w0 s) 24 [(0, .ref (ad G (B + 17))), (1, .int v1), (2, .int v2), (3, .int v3)] [.int w0] s := by
  unfold f_Lg_addSuppression_J24
  refine jr_istore C (lv' := [(4, .int w0), (0, .ref (ad G (B + 17))), (1, .int v1), (2, .int v2), (3, .int v3)]) (ltL hL rfl) rfl dX4_addSuppression_24 ?_
  refine jr_iload C 0 rfl dX4_addSuppression_26 ?_
  refine jr_if_ne C (tgt := 40) dX4_addSuppression_28 (by decide) (fun h2 => ?_) (fun h2 => ?_)
  · refine jo_neg h2 ?_
    refine jr_iconst C ic_m1 dX4_addSuppression_40 ?_
    exact jr_end (fun h => hr ((-1), s) h _ _ dX4_addSuppression_41)
  refine jo_pos h2 ?_
  refine jr_aload_n C 1 rfl rfl dX4_addSuppression_31 ?_
  refine jr_getI C FX_4 10 (oM_17 hB).1 (oM_17 hB).2 ff_4_10.1 ff_4_10.2 fl_X4_43 dX4_addSuppression_32 ?_
  refine jr_bipush C bp_20 dX4_addSuppression_35 ?_
  refine jr_icmp_lt C (tgt := 42) dX4_addSuppression_37 (by decide) (fun h3 => ?_) (fun h3 => ?_)
  · refine jo_pos h3 ?_
    refine jr_aload_n C 1 rfl rfl dX4_addSuppression_42 ?_
    refine jr_getR C FX_4 7 (oM_17 hB).1 (oM_17 hB).2 ff_4_7.1 ff_4_7.2 (rM_17_7 _ hB) fl_X4_24 dX4_addSuppression_43 ?_
    refine jr_aload_n C 1 rfl rfl dX4_addSuppression_46 ?_
    refine jr_getI C FX_4 10 (oM_17 hB).1 (oM_17 hB).2 ff_4_10.1 ff_4_10.2 fl_X4_43 dX4_addSuppression_47 ?_
    refine jr_iload_n C 2 rfl rfl dX4_addSuppression_50 ?_
    refine jr_iast C (oM_22 hB).1 (oM_22 hB).2.1 (oM_22 hB).2.2 dX4_addSuppression_51 (jr_ltS fun s4 => ?_)
    refine jr_aload_n C 1 rfl rfl dX4_addSuppression_52 ?_
    refine jr_getR C FX_4 8 (oM_17 hB).1 (oM_17 hB).2 ff_4_8.1 ff_4_8.2 (rM_17_8 _ hB) fl_X4_27 dX4_addSuppression_53 ?_
    refine jr_aload_n C 1 rfl rfl dX4_addSuppression_56 ?_
    refine jr_getI C FX_4 10 (oM_17 hB).1 (oM_17 hB).2 ff_4_10.1 ff_4_10.2 fl_X4_43 dX4_addSuppression_57 ?_
    refine jr_iload_n C 3 rfl rfl dX4_addSuppression_60 ?_
    refine jr_iast C (oM_23 hB).1 (oM_23 hB).2.1 (oM_23 hB).2.2 dX4_addSuppression_61 (jr_ltS fun s5 => ?_)
    refine jr_aload_n C 1 rfl rfl dX4_addSuppression_62 ?_
    refine jr_getR C FX_4 9 (oM_17 hB).1 (oM_17 hB).2 ff_4_9.1 ff_4_9.2 (rM_17_9 _ hB) fl_X4_30 dX4_addSuppression_63 ?_
    refine jr_aload_n C 1 rfl rfl dX4_addSuppression_66 ?_
    refine jr_getI C FX_4 10 (oM_17 hB).1 (oM_17 hB).2 ff_4_10.1 ff_4_10.2 fl_X4_43 dX4_addSuppression_67 ?_
    refine jr_iload_n C 4 rfl rfl dX4_addSuppression_70 ?_
    refine jr_iast C (oM_24 hB).1 (oM_24 hB).2.1 (oM_24 hB).2.2 dX4_addSuppression_71 (jr_ltS fun s6 => ?_)
    refine jr_aload_n C 1 rfl rfl dX4_addSuppression_72 ?_
    refine jr_dup C rfl dX4_addSuppression_73 ?_
    refine jr_getI C FX_4 10 (oM_17 hB).1 (oM_17 hB).2 ff_4_10.1 ff_4_10.2 fl_X4_43 dX4_addSuppression_74 ?_
    refine jr_iconst C ic_1 dX4_addSuppression_77 ?_
    refine jr_iadd C dX4_addSuppression_78 ?_
    refine jr_putI C FX_4 10 (oM_17 hB).1 (oM_17 hB).2 ff_4_10.1 ff_4_10.2 rfl rfl fl_X4_43 dX4_addSuppression_79 (jr_ltS fun s7 => ?_)
    refine jr_aload_n C 1 rfl rfl dX4_addSuppression_82 ?_
    refine jr_getI C FX_4 10 (oM_17 hB).1 (oM_17 hB).2 ff_4_10.1 ff_4_10.2 fl_X4_43 dX4_addSuppression_83 ?_
    exact jr_end (fun h => hr ((s7.1 (B + 17) 10), s7) h _ _ dX4_addSuppression_86)
  refine jo_neg h3 ?_
  refine jr_iconst C ic_m1 dX4_addSuppression_40 ?_
  exact jr_end (fun h => hr ((-1), s) h _ _ dX4_addSuppression_41)
noncomputable def f_Lg_addSuppression_J19 (B : Nat) (v1 : Int32) (v2 : Int32) (v3 : Int32) (s : St) : Option (Int32 × St) :=
  f_Lg_addSuppression_J24 B v1 v2 v3 1 s
set_option maxHeartbeats 4000000 in
set_option maxRecDepth 100000 in
theorem t_Lg_addSuppression_J19 (G : GG) (hR : gR G = rmx 0 0) (hL : gL G = 5) (C : Cx SC G cX4_addSuppression RX4) {Acc : (Int32 × St) → Prop} {B : Nat} (hB : isM B) (v1 : Int32) (v2 : Int32) (v3 : Int32) (s : St) (hr : ∀ v : (Int32 × St), Acc v → RtI SC G cX4_addSuppression v.1 v.2) : JJ SC G Acc (f_Lg_addSuppression_J19 B v1 v2 v3 s) 19 [(0, .ref (ad G (B + 17))), (1, .int v1), (2, .int v2), (3, .int v3)] [] s := by
  unfold f_Lg_addSuppression_J19
  refine jr_iconst C ic_1 dX4_addSuppression_19 ?_
  refine jr_goto C (tgt := 24) dX4_addSuppression_20 (by decide) ?_
  exact t_Lg_addSuppression_J24 G hR hL C hB v1 v2 v3 1 s hr
noncomputable def f_Lg_addSuppression (B : Nat) (v1 : Int32) (v2 : Int32) (v3 : Int32) (s : St) : Option (Int32 × St) :=
  if v1 < 0 then
  f_Lg_addSuppression_J19 B v1 v2 v3 s
  else
  if 7 < v1 then
  f_Lg_addSuppression_J19 B v1 v2 v3 s
  else
  if v2 < 0 then
  f_Lg_addSuppression_J19 B v1 v2 v3 s
  else
  if v2 ≤ v3 then
  f_Lg_addSuppression_J24 B v1 v2 v3 0 s
  else
  f_Lg_addSuppression_J19 B v1 v2 v3 s
set_option maxHeartbeats 4000000 in
set_option maxRecDepth 100000 in
theorem t_Lg_addSuppression (G : GG) (hR : gR G = rmx 0 0) (hL : gL G = 5) (C : Cx SC G cX4_addSuppression RX4) {Acc : (Int32 × St) → Prop} {B : Nat} (hB : isM B) (v1 : Int32) (v2 : Int32) (v3 : Int32) (s : St) (hr : ∀ v : (Int32 × St), Acc v → RtI SC G cX4_addSuppression v.1 v.2) : JJ SC G Acc (f_Lg_addSuppression B v1 v2 v3 s) 0 [(0, .ref (ad G (B + 17))), (1, .int v1), (2, .int v2), (3, .int v3)] [] s := by
  unfold f_Lg_addSuppression
  refine jr_iload_n C 1 rfl rfl dX4_addSuppression_0 ?_
  refine jr_if_lt C (tgt := 19) dX4_addSuppression_1 (by decide) (fun h1 => ?_) (fun h1 => ?_)
  · refine jo_pos h1 ?_
    exact t_Lg_addSuppression_J19 G hR hL C hB v1 v2 v3 s hr
  refine jo_neg h1 ?_
  refine jr_iload_n C 1 rfl rfl dX4_addSuppression_4 ?_
  refine jr_bipush C bp_7 dX4_addSuppression_5 ?_
  refine jr_icmp_gt C (tgt := 19) dX4_addSuppression_7 (by decide) (fun h8 => ?_) (fun h8 => ?_)
  · refine jo_pos h8 ?_
    exact t_Lg_addSuppression_J19 G hR hL C hB v1 v2 v3 s hr
  refine jo_neg h8 ?_
  refine jr_iload_n C 2 rfl rfl dX4_addSuppression_10 ?_
  refine jr_if_lt C (tgt := 19) dX4_addSuppression_11 (by decide) (fun h9 => ?_) (fun h9 => ?_)
  · refine jo_pos h9 ?_
    exact t_Lg_addSuppression_J19 G hR hL C hB v1 v2 v3 s hr
  refine jo_neg h9 ?_
  refine jr_iload_n C 2 rfl rfl dX4_addSuppression_14 ?_
  refine jr_iload_n C 3 rfl rfl dX4_addSuppression_15 ?_
  refine jr_icmp_le C (tgt := 23) dX4_addSuppression_16 (by decide) (fun h10 => ?_) (fun h10 => ?_)
  · refine jo_pos h10 ?_
    refine jr_iconst C ic_0 dX4_addSuppression_23 ?_
    exact t_Lg_addSuppression_J24 G hR hL C hB v1 v2 v3 0 s hr
  refine jo_neg h10 ?_
  exact t_Lg_addSuppression_J19 G hR hL C hB v1 v2 v3 s hr
set_option maxRecDepth 100000 in
theorem c_Lg_addSuppression (l : Launch) {B : Nat} (hB : isM B) (v1 : Int32) (v2 : Int32) (v3 : Int32) (s : St) {q : (Int32 × St)} (h : f_Lg_addSuppression B v1 v2 v3 s = some q) : CT SC l yX4_addSuppression cX4_addSuppression 5 (some .int) 0 0 (fun a => [.ref (a (B + 17)), .int v1, .int v2, .int v3]) s q.2 (fun _ => some (.int q.1)) :=
  ct_I okX_C (by decide) (fun _ => Nat.le_of_ble_eq_true rfl) (fun G hl hR hL C hr => t_Lg_addSuppression G hR hL C (Acc := fun v => v = q) hB v1 v2 v3 s (fun v hv => by rw [hv]; exact hr) ⟨_, h, rfl⟩)
noncomputable def f_SB_suppress (v1 : Int32) (v2 : Int32) (v3 : Int32) (s : St) : Option (Int32 × St) :=
  if (s.1 0 5) = 0 then
  some ((-1), s)
  else
  (f_Lg_addSuppression 20 v1 v2 v3 s).bind fun q2 =>
  some (q2.1, q2.2)
set_option maxHeartbeats 4000000 in
set_option maxRecDepth 100000 in
theorem t_SB_suppress (G : GG) (hR : gR G = rmx 1 24) (hL : gL G = 4) (C : Cx SC G cX11_suppress RX11) {Acc : (Int32 × St) → Prop}  (v1 : Int32) (v2 : Int32) (v3 : Int32) (s : St) (hr : ∀ v : (Int32 × St), Acc v → RtI SC G cX11_suppress v.1 v.2) : JJ SC G Acc (f_SB_suppress v1 v2 v3 s) 0 [(0, .ref (ad G 0)), (1, .int v1), (2, .int v2), (3, .int v3)] [] s := by
  unfold f_SB_suppress
  refine jr_aload_n C 0 rfl rfl dX11_suppress_0 ?_
  refine jr_getI C FX_9 5 oC_0.1 oC_0.2 ff_9_5.1 ff_9_5.2 fl_X11_56 dX11_suppress_1 ?_
  refine jr_if_eq C (tgt := 23) dX11_suppress_4 (by decide) (fun h1 => ?_) (fun h1 => ?_)
  · refine jo_pos h1 ?_
    refine jr_iconst C ic_m1 dX11_suppress_23 ?_
    exact jr_end (fun h => hr ((-1), s) h _ _ dX11_suppress_24)
  refine jo_neg h1 ?_
  refine jr_aload_n C 0 rfl rfl dX11_suppress_7 ?_
  refine jr_getR C FX_9 6 oC_0.1 oC_0.2 ff_9_6.1 ff_9_6.2 rfl fl_X11_33 dX11_suppress_8 ?_
  refine jr_getR C FX_5 4 (oM_0 isM_20).1 (oM_0 isM_20).2 ff_5_4.1 ff_5_4.2 (rM_0_4 _ isM_20) fl_X11_60 dX11_suppress_11 ?_
  refine jr_iload_n C 1 rfl rfl dX11_suppress_14 ?_
  refine jr_iload_n C 2 rfl rfl dX11_suppress_15 ?_
  refine jr_iload_n C 3 rfl rfl dX11_suppress_16 ?_
  refine jr_bind (fun q2 e3 => ?_)
  refine jr_callVI C FX_4 km_X11_89 (oM_17 isM_20).1 (oM_17 isM_20).2 (rk hR rfl) (c_Lg_addSuppression (gl G) isM_20 v1 v2 v3 s e3) rfl rfl rfl (Nat.le_of_ble_eq_true rfl) dX11_suppress_17 ?_
  refine jr_goto C (tgt := 24) dX11_suppress_20 (by decide) ?_
  exact jr_end (fun h => hr (q2.1, q2.2) h _ _ dX11_suppress_24)
set_option maxRecDepth 100000 in
theorem c_SB_suppress (l : Launch)  (v1 : Int32) (v2 : Int32) (v3 : Int32) (s : St) {q : (Int32 × St)} (h : f_SB_suppress v1 v2 v3 s = some q) : CT SC l yX11_suppress cX11_suppress 4 (some .int) 1 24 (fun a => [.ref (a 0), .int v1, .int v2, .int v3]) s q.2 (fun _ => some (.int q.1)) :=
  ct_I okX_C (by decide) (fun _ => Nat.le_of_ble_eq_true rfl) (fun G hl hR hL C hr => t_SB_suppress G hR hL C (Acc := fun v => v = q)  v1 v2 v3 s (fun v hv => by rw [hv]; exact hr) ⟨_, h, rfl⟩)
noncomputable def f_Ma_operand (B : Nat) (v1 : Int32) (s : St) : Option Int32 :=
  gP (s.2.2 (mq B)) fun p1 =>
  gd (((s.1 B 9) * 3) + v1) 600 <|
  some (s.1 (p1 + 2) ((((s.1 B 9) * 3) + v1) : Int32).toNatClampNeg)
set_option maxHeartbeats 4000000 in
set_option maxRecDepth 100000 in
theorem t_Ma_operand (G : GG) (hR : gR G = rmx 0 0) (hL : gL G = 2) (C : Cx SC G cX5_operand RX5) {Acc : Int32 → Prop} {B : Nat} (hB : isM B) (v1 : Int32) (s : St) (hr : ∀ v : Int32, Acc v → RtI SC G cX5_operand v s) : JJ SC G Acc (f_Ma_operand B v1 s) 0 [(0, .ref (ad G B)), (1, .int v1)] [] s := by
  unfold f_Ma_operand
  refine jr_aload_n C 0 rfl rfl dX5_operand_0 ?_
  refine jr_getP C FX_5 0 (oM_0 hB).1 (oM_0 hB).2 ff_5_0.1 ff_5_0.2 (fun hp => rM_p hB hp) fl_X5_60 dX5_operand_1 (fun p1 h2 => ?_)
  refine jr_getR C FX_7 1 (oP_0 h2).1 (oP_0 h2).2 ff_7_1.1 ff_7_1.2 (rP_0_1 _ h2) fl_X5_206 dX5_operand_4 ?_
  refine jr_aload_n C 0 rfl rfl dX5_operand_7 ?_
  refine jr_getI C FX_5 9 (oM_0 hB).1 (oM_0 hB).2 ff_5_9.1 ff_5_9.2 fl_X5_108 dX5_operand_8 ?_
  refine jr_iconst C ic_3 dX5_operand_11 ?_
  refine jr_imul C dX5_operand_12 ?_
  refine jr_iload_n C 1 rfl rfl dX5_operand_13 ?_
  refine jr_iadd C dX5_operand_14 ?_
  refine jr_iald C (oP_2 h2).1 (oP_2 h2).2.1 (oP_2 h2).2.2 dX5_operand_15 ?_
  exact jr_end (fun h => hr (s.1 (p1 + 2) ((((s.1 B 9) * 3) + v1) : Int32).toNatClampNeg) h _ _ dX5_operand_16)
set_option maxRecDepth 100000 in
theorem c_Ma_operand (l : Launch) {B : Nat} (hB : isM B) (v1 : Int32) (s : St) {q : Int32} (h : f_Ma_operand B v1 s = some q) : CT SC l yX5_operand cX5_operand 2 (some .int) 0 0 (fun a => [.ref (a B), .int v1]) s s (fun _ => some (.int q)) :=
  ct_I okX_C (by decide) (fun _ => Nat.le_of_ble_eq_true rfl) (fun G hl hR hL C hr => t_Ma_operand G hR hL C (Acc := fun v => v = q) hB v1 s (fun v hv => by rw [hv]; exact hr) ⟨_, h, rfl⟩)
noncomputable def f_Ma_registerOf (B : Nat) (v1 : Int32) (s : St) : Option Nat :=
  (f_Ma_operand B v1 s).bind fun q1 =>
  gd (q1 &&& 7) 8 <|
  some (B + 26 + ((q1 &&& 7) : Int32).toNatClampNeg)
set_option maxHeartbeats 4000000 in
set_option maxRecDepth 100000 in
theorem t_Ma_registerOf (G : GG) (hR : gR G = rmx 1 21) (hL : gL G = 2) (C : Cx SC G cX5_registerOf RX5) {Acc : Nat → Prop} {B : Nat} (hB : isM B) (v1 : Int32) (s : St) (hr : ∀ v : Nat, Acc v → RtA SC G cX5_registerOf v s) : JJ SC G Acc (f_Ma_registerOf B v1 s) 0 [(0, .ref (ad G B)), (1, .int v1)] [] s := by
  unfold f_Ma_registerOf
  refine jr_aload_n C 0 rfl rfl dX5_registerOf_0 ?_
  refine jr_getR C FX_5 5 (oM_0 hB).1 (oM_0 hB).2 ff_5_5.1 ff_5_5.2 (rM_0_5 _ hB) fl_X5_41 dX5_registerOf_1 ?_
  refine jr_aload_n C 0 rfl rfl dX5_registerOf_4 ?_
  refine jr_iload_n C 1 rfl rfl dX5_registerOf_5 ?_
  refine jr_bind (fun q1 e2 => ?_)
  refine jr_callVI C FX_5 km_X5_209 (oM_0 hB).1 (oM_0 hB).2 (rk hR rfl) (c_Ma_operand (gl G) hB v1 s e2) rfl rfl rfl (Nat.le_of_ble_eq_true rfl) dX5_registerOf_6 ?_
  refine jr_bipush C bp_7 dX5_registerOf_9 ?_
  refine jr_iand C dX5_registerOf_11 ?_
  refine jr_aald C (oM_25 hB).1 (oM_25 hB).2.1 (oM_25 hB).2.2 (fun _ => rM_r _ hB) dX5_registerOf_12 (fun h3 => ?_)
  exact jr_end (fun h => hr (B + 26 + ((q1 &&& 7) : Int32).toNatClampNeg) h _ _ dX5_registerOf_13)
set_option maxRecDepth 100000 in
theorem c_Ma_registerOf (l : Launch) {B : Nat} (hB : isM B) (v1 : Int32) (s : St) {q : Nat} (h : f_Ma_registerOf B v1 s = some q) : CT SC l yX5_registerOf cX5_registerOf 2 (some (.object "ShadeBench$Datum")) 1 21 (fun a => [.ref (a B), .int v1]) s s (fun a => some (.ref (a q))) :=
  ct_A okX_C (by decide) (fun _ => Nat.le_of_ble_eq_true rfl) (fun G hl hR hL C hr => t_Ma_registerOf G hR hL C (Acc := fun v => v = q) hB v1 s (fun v hv => by rw [hv]; exact hr) ⟨_, h, rfl⟩)
noncomputable def f_Da_take (k : Nat) (k1 : Nat) (s : St) : Option St :=
  (f_Da_put k (s.1 k1 0) (s.1 k1 1) (s.1 k1 2) s).bind fun q1 =>
  some q1
set_option maxHeartbeats 4000000 in
set_option maxRecDepth 100000 in
theorem t_Da_take (G : GG) (hR : gR G = rmx 1 23) (hL : gL G = 2) (C : Cx SC G cX1_take RX1) {Acc : St → Prop} {k : Nat} (hk : isD k) {k1 : Nat} (hk1 : isD k1)  (s : St) (hr : ∀ v : St, Acc v → RtV SC G cX1_take v) : JJ SC G Acc (f_Da_take k k1 s) 0 [(0, .ref (ad G k)), (1, .ref (ad G k1))] [] s := by
  unfold f_Da_take
  refine jr_aload_n C 0 rfl rfl dX1_take_0 ?_
  refine jr_aload_n C 1 rfl rfl dX1_take_1 ?_
  refine jr_getI C FX_1 0 (oD hk1).1 (oD hk1).2 ff_1_0.1 ff_1_0.2 fl_X1_9 dX1_take_2 ?_
  refine jr_aload_n C 1 rfl rfl dX1_take_5 ?_
  refine jr_getI C FX_1 1 (oD hk1).1 (oD hk1).2 ff_1_1.1 ff_1_1.2 fl_X1_15 dX1_take_6 ?_
  refine jr_aload_n C 1 rfl rfl dX1_take_9 ?_
  refine jr_getI C FX_1 2 (oD hk1).1 (oD hk1).2 ff_1_2.1 ff_1_2.2 fl_X1_18 dX1_take_10 ?_
  refine jr_bind (fun q1 e2 => ?_)
  refine jr_callVV C FX_1 km_X1_21 (oD hk).1 (oD hk).2 (rk hR rfl) (c_Da_put (gl G) hk (s.1 k1 0) (s.1 k1 1) (s.1 k1 2) s e2) rfl rfl rfl (Nat.le_of_ble_eq_true rfl) dX1_take_13 ?_
  exact jr_end (fun h => hr q1 h _ _ dX1_take_16)
set_option maxRecDepth 100000 in
theorem c_Da_take (l : Launch) {k : Nat} (hk : isD k) {k1 : Nat} (hk1 : isD k1)  (s : St) {q : St} (h : f_Da_take k k1 s = some q) : CT SC l yX1_take cX1_take 2 none 1 23 (fun a => [.ref (a k), .ref (a k1)]) s q (fun _ => none) :=
  ct_V okX_C (by decide) (fun _ => Nat.le_of_ble_eq_true rfl) (fun G hl hR hL C hr => t_Da_take G hR hL C (Acc := fun v => v = q) hk hk1  s (fun v hv => by rw [hv]; exact hr) ⟨_, h, rfl⟩)
noncomputable def f_Ma_takeRegister (B : Nat) (k1 : Nat) (v2 : Int32) (s : St) : Option St :=
  (f_Ma_registerOf B v2 s).bind fun q1 =>
  if isD q1 then
  ((f_Da_take k1 q1 s).bind fun q4 =>
  some q4)
  else none
set_option maxHeartbeats 4000000 in
set_option maxRecDepth 100000 in
theorem t_Ma_takeRegister (G : GG) (hR : gR G = rmx 2 44) (hL : gL G = 3) (C : Cx SC G cX5_takeRegister RX5) {Acc : St → Prop} {B : Nat} (hB : isM B) {k1 : Nat} (hk1 : isD k1) (v2 : Int32) (s : St) (hr : ∀ v : St, Acc v → RtV SC G cX5_takeRegister v) : JJ SC G Acc (f_Ma_takeRegister B k1 v2 s) 0 [(0, .ref (ad G B)), (1, .ref (ad G k1)), (2, .int v2)] [] s := by
  unfold f_Ma_takeRegister
  refine jr_aload_n C 1 rfl rfl dX5_takeRegister_0 ?_
  refine jr_aload_n C 0 rfl rfl dX5_takeRegister_1 ?_
  refine jr_iload_n C 2 rfl rfl dX5_takeRegister_2 ?_
  refine jr_bind (fun q1 e2 => ?_)
  refine jr_callVA C FX_5 km_X5_213 (oM_0 hB).1 (oM_0 hB).2 (rk hR rfl) (c_Ma_registerOf (gl G) hB v2 s e2) rfl rfl rfl (Nat.le_of_ble_eq_true rfl) dX5_takeRegister_3 ?_
  refine jo_if (fun h3 => ?_)
  refine jr_bind (fun q4 e5 => ?_)
  refine jr_callVV C FX_1 km_X5_217 (oD hk1).1 (oD hk1).2 (rk hR rfl) (c_Da_take (gl G) hk1 h3 s e5) rfl rfl rfl (Nat.le_of_ble_eq_true rfl) dX5_takeRegister_6 ?_
  exact jr_end (fun h => hr q4 h _ _ dX5_takeRegister_9)
set_option maxRecDepth 100000 in
theorem c_Ma_takeRegister (l : Launch) {B : Nat} (hB : isM B) {k1 : Nat} (hk1 : isD k1) (v2 : Int32) (s : St) {q : St} (h : f_Ma_takeRegister B k1 v2 s = some q) : CT SC l yX5_takeRegister cX5_takeRegister 3 none 2 44 (fun a => [.ref (a B), .ref (a k1), .int v2]) s q (fun _ => none) :=
  ct_V okX_C (by decide) (fun _ => Nat.le_of_ble_eq_true rfl) (fun G hl hR hL C hr => t_Ma_takeRegister G hR hL C (Acc := fun v => v = q) hB hk1 v2 s (fun v hv => by rw [hv]; exact hr) ⟨_, h, rfl⟩)
noncomputable def f_Ma_takeEither (B : Nat) (k1 : Nat) (v2 : Int32) (s : St) : Option St :=
  gP (s.2.2 (mq B)) fun p1 =>
  gd (s.1 B 9) 200 <|
  if (s.1 (p1 + 3) ((s.1 B 9) : Int32).toNatClampNeg) = 0 then
  ((f_Ma_takeRegister B k1 v2 s).bind fun q4 =>
  some q4)
  else
  (f_Ma_operand B v2 s).bind fun q6 =>
  (f_Da_putSet k1 q6 s).bind fun q8 =>
  some q8
set_option maxHeartbeats 4000000 in
set_option maxRecDepth 100000 in
theorem t_Ma_takeEither (G : GG) (hR : gR G = rmx 3 66) (hL : gL G = 3) (C : Cx SC G cX5_takeEither RX5) {Acc : St → Prop} {B : Nat} (hB : isM B) {k1 : Nat} (hk1 : isD k1) (v2 : Int32) (s : St) (hr : ∀ v : St, Acc v → RtV SC G cX5_takeEither v) : JJ SC G Acc (f_Ma_takeEither B k1 v2 s) 0 [(0, .ref (ad G B)), (1, .ref (ad G k1)), (2, .int v2)] [] s := by
  unfold f_Ma_takeEither
  refine jr_aload_n C 0 rfl rfl dX5_takeEither_0 ?_
  refine jr_getP C FX_5 0 (oM_0 hB).1 (oM_0 hB).2 ff_5_0.1 ff_5_0.2 (fun hp => rM_p hB hp) fl_X5_60 dX5_takeEither_1 (fun p1 h2 => ?_)
  refine jr_getR C FX_7 2 (oP_0 h2).1 (oP_0 h2).2 ff_7_2.1 ff_7_2.2 (rP_0_2 _ h2) fl_X5_221 dX5_takeEither_4 ?_
  refine jr_aload_n C 0 rfl rfl dX5_takeEither_7 ?_
  refine jr_getI C FX_5 9 (oM_0 hB).1 (oM_0 hB).2 ff_5_9.1 ff_5_9.2 fl_X5_108 dX5_takeEither_8 ?_
  refine jr_zald C (oP_3 h2).1 (oP_3 h2).2.1 (oP_3 h2).2.2 dX5_takeEither_11 ?_
  refine jr_if_eq C (tgt := 27) dX5_takeEither_12 (by decide) (fun h3 => ?_) (fun h3 => ?_)
  · refine jo_pos h3 ?_
    refine jr_aload_n C 0 rfl rfl dX5_takeEither_27 ?_
    refine jr_aload_n C 1 rfl rfl dX5_takeEither_28 ?_
    refine jr_iload_n C 2 rfl rfl dX5_takeEither_29 ?_
    refine jr_bind (fun q4 e5 => ?_)
    refine jr_callVV C FX_5 km_X5_225 (oM_0 hB).1 (oM_0 hB).2 (rk hR rfl) (c_Ma_takeRegister (gl G) hB hk1 v2 s e5) rfl rfl rfl (Nat.le_of_ble_eq_true rfl) dX5_takeEither_30 ?_
    exact jr_end (fun h => hr q4 h _ _ dX5_takeEither_33)
  refine jo_neg h3 ?_
  refine jr_aload_n C 1 rfl rfl dX5_takeEither_15 ?_
  refine jr_aload_n C 0 rfl rfl dX5_takeEither_16 ?_
  refine jr_iload_n C 2 rfl rfl dX5_takeEither_17 ?_
  refine jr_bind (fun q6 e7 => ?_)
  refine jr_callVI C FX_5 km_X5_209 (oM_0 hB).1 (oM_0 hB).2 (rk hR rfl) (c_Ma_operand (gl G) hB v2 s e7) rfl rfl rfl (Nat.le_of_ble_eq_true rfl) dX5_takeEither_18 ?_
  refine jr_bind (fun q8 e9 => ?_)
  refine jr_callVV C FX_1 km_X5_83 (oD hk1).1 (oD hk1).2 (rk hR rfl) (c_Da_putSet (gl G) hk1 q6 s e9) rfl rfl rfl (Nat.le_of_ble_eq_true rfl) dX5_takeEither_21 ?_
  refine jr_goto C (tgt := 33) dX5_takeEither_24 (by decide) ?_
  exact jr_end (fun h => hr q8 h _ _ dX5_takeEither_33)
set_option maxRecDepth 100000 in
theorem c_Ma_takeEither (l : Launch) {B : Nat} (hB : isM B) {k1 : Nat} (hk1 : isD k1) (v2 : Int32) (s : St) {q : St} (h : f_Ma_takeEither B k1 v2 s = some q) : CT SC l yX5_takeEither cX5_takeEither 3 none 3 66 (fun a => [.ref (a B), .ref (a k1), .int v2]) s q (fun _ => none) :=
  ct_V okX_C (by decide) (fun _ => Nat.le_of_ble_eq_true rfl) (fun G hl hR hL C hr => t_Ma_takeEither G hR hL C (Acc := fun v => v = q) hB hk1 v2 s (fun v hv => by rw [hv]; exact hr) ⟨_, h, rfl⟩)
