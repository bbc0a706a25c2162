noncomputable def f_Mo_told_J83_1 (v1 : Int32) (v2 : Int32) (v3 : Int32) (s : St) : Option (Int32 ⊕ (Int32 ⊕ St)) :=
  some (.inl (v3 + 1))
set_option maxHeartbeats 4000000 in
set_option maxRecDepth 100000 in
theorem t_Mo_told_J83_1 (G : GG) (hR : gR G = rmx 0 0) (hL : gL G = 4) (C : Cx SM G cX12_told RX12) {Acc : (Int32 ⊕ (Int32 ⊕ St)) → Prop}  (v1 : Int32) (v2 : Int32) (v3 : Int32) (s : St) (hb1 : ∀ (a3 : Int32), Acc (.inl a3) → KK SM G 16 [(0, .ref (ad G 0)), (1, .int v1), (2, .int v2), (3, .int a3)] [] s) (hx1 : ∀ (a3 : Int32), Acc (.inr (.inl a3)) → KK SM G 89 [(0, .ref (ad G 0)), (1, .int v1), (2, .int v2), (3, .int a3)] [] s) (hr : ∀ v : St, Acc (.inr (.inr v)) → RtV SM G cX12_told v) : JJ SM G Acc (f_Mo_told_J83_1 v1 v2 v3 s) 83 [(0, .ref (ad G 0)), (1, .int v1), (2, .int v2), (3, .int v3)] [] s := by
  unfold f_Mo_told_J83_1
  refine jr_iinc C 3 rfl ii_1 (lv' := [(3, .int (v3 + 1)), (0, .ref (ad G 0)), (1, .int v1), (2, .int v2)]) (ltL hL rfl) rfl dX12_told_83 ?_
  refine jr_goto C (tgt := 16) dX12_told_86 (by decide) ?_
  refine jr_lv [1, 2, 3, 0] rfl ?_
  exact jr_end (fun h => hb1 (v3 + 1) h)
noncomputable def f_Mo_told_J43_1 (v1 : Int32) (v2 : Int32) (v3 : Int32) (s : St) : Option (Int32 ⊕ (Int32 ⊕ St)) :=
  gd v3 20 <|
  if (s.1 0 69) < (s.1 43 (v3 : Int32).toNatClampNeg) then
  f_Mo_told_J83_1 v1 v2 v3 s
  else
  gd v3 20 <|
  if (s.1 0 69) ≤ (s.1 44 (v3 : Int32).toNatClampNeg) then
  (lt (uI s 0 63 ((s.1 0 63) + 1)) fun s7 =>
  some (.inr (.inr s7)))
  else
  f_Mo_told_J83_1 v1 v2 v3 s
set_option maxHeartbeats 4000000 in
set_option maxRecDepth 100000 in
theorem t_Mo_told_J43_1 (G : GG) (hR : gR G = rmx 0 0) (hL : gL G = 4) (C : Cx SM G cX12_told RX12) {Acc : (Int32 ⊕ (Int32 ⊕ St)) → Prop}  (v1 : Int32) (v2 : Int32) (v3 : Int32) (s : St) (hb1 : ∀ (a3 : Int32), Acc (.inl a3) → KK SM G 16 [(0, .ref (ad G 0)), (1, .int v1), (2, .int v2), (3, .int a3)] [] s) (hx1 : ∀ (a3 : Int32), Acc (.inr (.inl a3)) → KK SM G 89 [(0, .ref (ad G 0)), (1, .int v1), (2, .int v2), (3, .int a3)] [] s) (hr : ∀ v : St, Acc (.inr (.inr v)) → RtV SM G cX12_told v) : JJ SM G Acc (f_Mo_told_J43_1 v1 v2 v3 s) 43 [(0, .ref (ad G 0)), (1, .int v1), (2, .int v2), (3, .int v3)] [] s := by
  unfold f_Mo_told_J43_1
  refine jr_aload_n C 0 rfl rfl dX12_told_43 ?_
  refine jr_getI C FX_10 69 oS_0.1 oS_0.2 ff_10_69.1 ff_10_69.2 fl_X12_420 dX12_told_44 ?_
  refine jr_aload_n C 0 rfl rfl dX12_told_47 ?_
  refine jr_getR C FX_10 66 oS_0.1 oS_0.2 ff_10_66.1 ff_10_66.2 rfl fl_X12_145 dX12_told_48 ?_
  refine jr_iload_n C 3 rfl rfl dX12_told_51 ?_
  refine jr_iald C oS_43.1 oS_43.2.1 oS_43.2.2 dX12_told_52 ?_
  refine jr_icmp_lt C (tgt := 83) dX12_told_53 (by decide) (fun h5 => ?_) (fun h5 => ?_)
  · refine jo_pos h5 ?_
    exact t_Mo_told_J83_1 G hR hL C  v1 v2 v3 s hb1 hx1 hr
  refine jo_neg h5 ?_
  refine jr_aload_n C 0 rfl rfl dX12_told_56 ?_
  refine jr_getI C FX_10 69 oS_0.1 oS_0.2 ff_10_69.1 ff_10_69.2 fl_X12_420 dX12_told_57 ?_
  refine jr_aload_n C 0 rfl rfl dX12_told_60 ?_
  refine jr_getR C FX_10 67 oS_0.1 oS_0.2 ff_10_67.1 ff_10_67.2 rfl fl_X12_148 dX12_told_61 ?_
  refine jr_iload_n C 3 rfl rfl dX12_told_64 ?_
  refine jr_iald C oS_44.1 oS_44.2.1 oS_44.2.2 dX12_told_65 ?_
  refine jr_icmp_le C (tgt := 72) dX12_told_66 (by decide) (fun h6 => ?_) (fun h6 => ?_)
  · refine jo_pos h6 ?_
    refine jr_aload_n C 0 rfl rfl dX12_told_72 ?_
    refine jr_dup C rfl dX12_told_73 ?_
    refine jr_getI C FX_10 63 oS_0.1 oS_0.2 ff_10_63.1 ff_10_63.2 fl_X12_406 dX12_told_74 ?_
    refine jr_iconst C ic_1 dX12_told_77 ?_
    refine jr_iadd C dX12_told_78 ?_
    refine jr_putI C FX_10 63 oS_0.1 oS_0.2 ff_10_63.1 ff_10_63.2 rfl rfl fl_X12_406 dX12_told_79 (jr_ltS fun s7 => ?_)
    exact jr_end (fun h => hr s7 h _ _ dX12_told_82)
  refine jo_neg h6 ?_
  refine jr_goto C (tgt := 83) dX12_told_69 (by decide) ?_
  exact t_Mo_told_J83_1 G hR hL C  v1 v2 v3 s hb1 hx1 hr
noncomputable def f_Mo_told_L16 (v1 : Int32) (v2 : Int32) (v3 : Int32) (s : St) : Option (Int32 ⊕ (Int32 ⊕ St)) :=
  if (s.1 0 68) ≤ v3 then
  some (.inr (.inl v3))
  else
  gd v3 20 <|
  if (s.1 42 (v3 : Int32).toNatClampNeg) = 0 then
  f_Mo_told_J43_1 v1 v2 v3 s
  else
  gd v3 20 <|
  if (s.1 42 (v3 : Int32).toNatClampNeg) = v1 then
  f_Mo_told_J43_1 v1 v2 v3 s
  else
  f_Mo_told_J83_1 v1 v2 v3 s
set_option maxHeartbeats 4000000 in
set_option maxRecDepth 100000 in
theorem t_Mo_told_L16 (G : GG) (hR : gR G = rmx 0 0) (hL : gL G = 4) (C : Cx SM G cX12_told RX12) {Acc : (Int32 ⊕ (Int32 ⊕ St)) → Prop}  (v1 : Int32) (v2 : Int32) (v3 : Int32) (s : St) (hb1 : ∀ (a3 : Int32), Acc (.inl a3) → KK SM G 16 [(0, .ref (ad G 0)), (1, .int v1), (2, .int v2), (3, .int a3)] [] s) (hx1 : ∀ (a3 : Int32), Acc (.inr (.inl a3)) → KK SM G 89 [(0, .ref (ad G 0)), (1, .int v1), (2, .int v2), (3, .int a3)] [] s) (hr : ∀ v : St, Acc (.inr (.inr v)) → RtV SM G cX12_told v) : JJ SM G Acc (f_Mo_told_L16 v1 v2 v3 s) 16 [(0, .ref (ad G 0)), (1, .int v1), (2, .int v2), (3, .int v3)] [] s := by
  unfold f_Mo_told_L16
  refine jr_iload_n C 3 rfl rfl dX12_told_16 ?_
  refine jr_aload_n C 0 rfl rfl dX12_told_17 ?_
  refine jr_getI C FX_10 68 oS_0.1 oS_0.2 ff_10_68.1 ff_10_68.2 fl_X12_387 dX12_told_18 ?_
  refine jr_icmp_ge C (tgt := 89) dX12_told_21 (by decide) (fun h3 => ?_) (fun h3 => ?_)
  · refine jo_pos h3 ?_
    exact jr_end (fun h => hx1 v3 h)
  refine jo_neg h3 ?_
  refine jr_aload_n C 0 rfl rfl dX12_told_24 ?_
  refine jr_getR C FX_10 65 oS_0.1 oS_0.2 ff_10_65.1 ff_10_65.2 rfl fl_X12_142 dX12_told_25 ?_
  refine jr_iload_n C 3 rfl rfl dX12_told_28 ?_
  refine jr_iald C oS_42.1 oS_42.2.1 oS_42.2.2 dX12_told_29 ?_
  refine jr_if_eq C (tgt := 43) dX12_told_30 (by decide) (fun h4 => ?_) (fun h4 => ?_)
  · refine jo_pos h4 ?_
    exact t_Mo_told_J43_1 G hR hL C  v1 v2 v3 s hb1 hx1 hr
  refine jo_neg h4 ?_
  refine jr_aload_n C 0 rfl rfl dX12_told_33 ?_
  refine jr_getR C FX_10 65 oS_0.1 oS_0.2 ff_10_65.1 ff_10_65.2 rfl fl_X12_142 dX12_told_34 ?_
  refine jr_iload_n C 3 rfl rfl dX12_told_37 ?_
  refine jr_iald C oS_42.1 oS_42.2.1 oS_42.2.2 dX12_told_38 ?_
  refine jr_iload_n C 1 rfl rfl dX12_told_39 ?_
  refine jr_icmp_ne C (tgt := 83) dX12_told_40 (by decide) (fun h8 => ?_) (fun h8 => ?_)
  · refine jo_neg h8 ?_
    exact t_Mo_told_J83_1 G hR hL C  v1 v2 v3 s hb1 hx1 hr
  refine jo_pos h8 ?_
  exact t_Mo_told_J43_1 G hR hL C  v1 v2 v3 s hb1 hx1 hr
noncomputable def f_Mo_told_J156_1 (v1 : Int32) (v2 : Int32) (v3 : Int32) (s : St) : Option (Int32 ⊕ (Int32 ⊕ St)) :=
  some (.inl (v3 + 1))
set_option maxHeartbeats 4000000 in
set_option maxRecDepth 100000 in
theorem t_Mo_told_J156_1 (G : GG) (hR : gR G = rmx 0 0) (hL : gL G = 4) (C : Cx SM G cX12_told RX12) {Acc : (Int32 ⊕ (Int32 ⊕ St)) → Prop}  (v1 : Int32) (v2 : Int32) (v3 : Int32) (s : St) (hb1 : ∀ (a3 : Int32), Acc (.inl a3) → KK SM G 101 [(0, .ref (ad G 0)), (1, .int v1), (2, .int v2), (3, .int a3)] [] s) (hx1 : ∀ (a3 : Int32), Acc (.inr (.inl a3)) → KK SM G 162 [(0, .ref (ad G 0)), (1, .int v1), (2, .int v2), (3, .int a3)] [] s) (hr : ∀ v : St, Acc (.inr (.inr v)) → RtV SM G cX12_told v) : JJ SM G Acc (f_Mo_told_J156_1 v1 v2 v3 s) 156 [(0, .ref (ad G 0)), (1, .int v1), (2, .int v2), (3, .int v3)] [] s := by
  unfold f_Mo_told_J156_1
  refine jr_iinc C 3 rfl ii_1 (lv' := [(3, .int (v3 + 1)), (0, .ref (ad G 0)), (1, .int v1), (2, .int v2)]) (ltL hL rfl) rfl dX12_told_156 ?_
  refine jr_goto C (tgt := 101) dX12_told_159 (by decide) ?_
  refine jr_lv [1, 2, 3, 0] rfl ?_
  exact jr_end (fun h => hb1 (v3 + 1) h)
noncomputable def f_Mo_told_L101 (v1 : Int32) (v2 : Int32) (v3 : Int32) (s : St) : Option (Int32 ⊕ (Int32 ⊕ St)) :=
  if (s.1 0 61) ≤ v3 then
  some (.inr (.inl v3))
  else
  gd v3 60 <|
  if (s.1 38 (v3 : Int32).toNatClampNeg) = v1 then
  (gd v3 60 <|
  if (s.1 39 (v3 : Int32).toNatClampNeg) = (s.1 0 69) then
  (gd v3 60 <|
  if (s.1 40 (v3 : Int32).toNatClampNeg) = v2 then
  (gd v3 60 <|
  gd v3 60 <|
  lt (uI s 41 (v3 : Int32).toNatClampNeg ((s.1 41 (v3 : Int32).toNatClampNeg) + 1)) fun s15 =>
  some (.inr (.inr s15)))
  else
  f_Mo_told_J156_1 v1 v2 v3 s)
  else
  f_Mo_told_J156_1 v1 v2 v3 s)
  else
  f_Mo_told_J156_1 v1 v2 v3 s
set_option maxHeartbeats 4000000 in
set_option maxRecDepth 100000 in
theorem t_Mo_told_L101 (G : GG) (hR : gR G = rmx 0 0) (hL : gL G = 4) (C : Cx SM G cX12_told RX12) {Acc : (Int32 ⊕ (Int32 ⊕ St)) → Prop}  (v1 : Int32) (v2 : Int32) (v3 : Int32) (s : St) (hb1 : ∀ (a3 : Int32), Acc (.inl a3) → KK SM G 101 [(0, .ref (ad G 0)), (1, .int v1), (2, .int v2), (3, .int a3)] [] s) (hx1 : ∀ (a3 : Int32), Acc (.inr (.inl a3)) → KK SM G 162 [(0, .ref (ad G 0)), (1, .int v1), (2, .int v2), (3, .int a3)] [] s) (hr : ∀ v : St, Acc (.inr (.inr v)) → RtV SM G cX12_told v) : JJ SM G Acc (f_Mo_told_L101 v1 v2 v3 s) 101 [(0, .ref (ad G 0)), (1, .int v1), (2, .int v2), (3, .int v3)] [] s := by
  unfold f_Mo_told_L101
  refine jr_iload_n C 3 rfl rfl dX12_told_101 ?_
  refine jr_aload_n C 0 rfl rfl dX12_told_102 ?_
  refine jr_getI C FX_10 61 oS_0.1 oS_0.2 ff_10_61.1 ff_10_61.2 fl_X12_400 dX12_told_103 ?_
  refine jr_icmp_ge C (tgt := 162) dX12_told_106 (by decide) (fun h11 => ?_) (fun h11 => ?_)
  · refine jo_pos h11 ?_
    exact jr_end (fun h => hx1 v3 h)
  refine jo_neg h11 ?_
  refine jr_aload_n C 0 rfl rfl dX12_told_109 ?_
  refine jr_getR C FX_10 57 oS_0.1 oS_0.2 ff_10_57.1 ff_10_57.2 rfl fl_X12_130 dX12_told_110 ?_
  refine jr_iload_n C 3 rfl rfl dX12_told_113 ?_
  refine jr_iald C oS_38.1 oS_38.2.1 oS_38.2.2 dX12_told_114 ?_
  refine jr_iload_n C 1 rfl rfl dX12_told_115 ?_
  refine jr_icmp_ne C (tgt := 156) dX12_told_116 (by decide) (fun h12 => ?_) (fun h12 => ?_)
  · refine jo_neg h12 ?_
    exact t_Mo_told_J156_1 G hR hL C  v1 v2 v3 s hb1 hx1 hr
  refine jo_pos h12 ?_
  refine jr_aload_n C 0 rfl rfl dX12_told_119 ?_
  refine jr_getR C FX_10 58 oS_0.1 oS_0.2 ff_10_58.1 ff_10_58.2 rfl fl_X12_133 dX12_told_120 ?_
  refine jr_iload_n C 3 rfl rfl dX12_told_123 ?_
  refine jr_iald C oS_39.1 oS_39.2.1 oS_39.2.2 dX12_told_124 ?_
  refine jr_aload_n C 0 rfl rfl dX12_told_125 ?_
  refine jr_getI C FX_10 69 oS_0.1 oS_0.2 ff_10_69.1 ff_10_69.2 fl_X12_420 dX12_told_126 ?_
  refine jr_icmp_ne C (tgt := 156) dX12_told_129 (by decide) (fun h13 => ?_) (fun h13 => ?_)
  · refine jo_neg h13 ?_
    exact t_Mo_told_J156_1 G hR hL C  v1 v2 v3 s hb1 hx1 hr
  refine jo_pos h13 ?_
  refine jr_aload_n C 0 rfl rfl dX12_told_132 ?_
  refine jr_getR C FX_10 59 oS_0.1 oS_0.2 ff_10_59.1 ff_10_59.2 rfl fl_X12_136 dX12_told_133 ?_
  refine jr_iload_n C 3 rfl rfl dX12_told_136 ?_
  refine jr_iald C oS_40.1 oS_40.2.1 oS_40.2.2 dX12_told_137 ?_
  refine jr_iload_n C 2 rfl rfl dX12_told_138 ?_
  refine jr_icmp_eq C (tgt := 145) dX12_told_139 (by decide) (fun h14 => ?_) (fun h14 => ?_)
  · refine jo_pos h14 ?_
    refine jr_aload_n C 0 rfl rfl dX12_told_145 ?_
    refine jr_getR C FX_10 60 oS_0.1 oS_0.2 ff_10_60.1 ff_10_60.2 rfl fl_X12_139 dX12_told_146 ?_
    refine jr_iload_n C 3 rfl rfl dX12_told_149 ?_
    refine jr_dup2 C rfl rfl dX12_told_150 ?_
    refine jr_iald C oS_41.1 oS_41.2.1 oS_41.2.2 dX12_told_151 ?_
    refine jr_iconst C ic_1 dX12_told_152 ?_
    refine jr_iadd C dX12_told_153 ?_
    refine jr_iast C oS_41.1 oS_41.2.1 oS_41.2.2 dX12_told_154 (jr_ltS fun s15 => ?_)
    exact jr_end (fun h => hr s15 h _ _ dX12_told_155)
  refine jo_neg h14 ?_
  refine jr_goto C (tgt := 156) dX12_told_142 (by decide) ?_
  exact t_Mo_told_J156_1 G hR hL C  v1 v2 v3 s hb1 hx1 hr
noncomputable def f_Mo_told (v1 : Int32) (v2 : Int32) (s : St) : Option St :=
  if (s.1 0 28) = 1 then
  some s
  else
  lt (uI s 0 64 0) fun s2 =>
  (wh (fun a : Int32 => f_Mo_told_L16 v1 v2 a s2) 0).bind (Sum.elim (fun b9 =>
  lt (uI s2 0 62 ((s2.1 0 62) + 1)) fun s10 =>
  (wh (fun a : Int32 => f_Mo_told_L101 v1 v2 a s10) 0).bind (Sum.elim (fun b16 =>
  if (s10.1 0 61) = 60 then
  some s10
  else
  gd (s10.1 0 61) 60 <|
  lt (uI s10 38 ((s10.1 0 61) : Int32).toNatClampNeg v1) fun s18 =>
  gd (s18.1 0 61) 60 <|
  lt (uI s18 39 ((s18.1 0 61) : Int32).toNatClampNeg (s18.1 0 69)) fun s19 =>
  gd (s19.1 0 61) 60 <|
  lt (uI s19 40 ((s19.1 0 61) : Int32).toNatClampNeg v2) fun s20 =>
  gd (s20.1 0 61) 60 <|
  lt (uI s20 41 ((s20.1 0 61) : Int32).toNatClampNeg 1) fun s21 =>
  lt (uI s21 0 61 ((s21.1 0 61) + 1)) fun s22 =>
  some s22) some)) some)
set_option maxHeartbeats 4000000 in
set_option maxRecDepth 100000 in
theorem t_Mo_told (G : GG) (hR : gR G = rmx 0 0) (hL : gL G = 4) (C : Cx SM G cX12_told RX12) {Acc : St → Prop}  (v1 : Int32) (v2 : Int32) (s : St) (hr : ∀ v : St, Acc v → RtV SM G cX12_told v) : JJ SM G Acc (f_Mo_told v1 v2 s) 0 [(0, .ref (ad G 0)), (1, .int v1), (2, .int v2)] [] s := by
  unfold f_Mo_told
  refine jr_aload_n C 0 rfl rfl dX12_told_0 ?_
  refine jr_getI C FX_10 28 oS_0.1 oS_0.2 ff_10_28.1 ff_10_28.2 fl_X12_394 dX12_told_1 ?_
  refine jr_iconst C ic_1 dX12_told_4 ?_
  refine jr_icmp_ne C (tgt := 9) dX12_told_5 (by decide) (fun h1 => ?_) (fun h1 => ?_)
  · refine jo_neg h1 ?_
    refine jr_aload_n C 0 rfl rfl dX12_told_9 ?_
    refine jr_iconst C ic_0 dX12_told_10 ?_
    refine jr_putZ C FX_10 64 oS_0.1 oS_0.2 ff_10_64.1 ff_10_64.2 rfl rfl (Or.inl rfl) fl_X12_412 dX12_told_11 (jr_ltS fun s2 => ?_)
    refine jr_iconst C ic_0 dX12_told_14 ?_
    refine jr_istore_n C (lv' := [(3, .int 0), (0, .ref (ad G 0)), (1, .int v1), (2, .int v2)]) (ltL hL rfl) rfl rfl dX12_told_15 ?_
    refine jr_lv [1, 2, 3, 0] rfl ?_
    refine jr_loopE (pc := 16) (pcx := 89) (f := fun a : Int32 => f_Mo_told_L16 v1 v2 a s2) (fun a : Int32 => [(0, .ref (ad G 0)), (1, .int v1), (2, .int v2), (3, .int a)]) (fun a : Int32 => s2) 0 (fun a => t_Mo_told_L16 G hR hL C  v1 v2 a s2 (fun _ h => h) (fun _ h => h) hr) (fun b9 => ?_)
    refine jr_aload_n C 0 rfl rfl dX12_told_89 ?_
    refine jr_dup C rfl dX12_told_90 ?_
    refine jr_getI C FX_10 62 oS_0.1 oS_0.2 ff_10_62.1 ff_10_62.2 fl_X12_403 dX12_told_91 ?_
    refine jr_iconst C ic_1 dX12_told_94 ?_
    refine jr_iadd C dX12_told_95 ?_
    refine jr_putI C FX_10 62 oS_0.1 oS_0.2 ff_10_62.1 ff_10_62.2 rfl rfl fl_X12_403 dX12_told_96 (jr_ltS fun s10 => ?_)
    refine jr_iconst C ic_0 dX12_told_99 ?_
    refine jr_istore_n C (lv' := [(3, .int 0), (0, .ref (ad G 0)), (1, .int v1), (2, .int v2)]) (ltL hL rfl) rfl rfl dX12_told_100 ?_
    refine jr_lv [1, 2, 3, 0] rfl ?_
    refine jr_loopE (pc := 101) (pcx := 162) (f := fun a : Int32 => f_Mo_told_L101 v1 v2 a s10) (fun a : Int32 => [(0, .ref (ad G 0)), (1, .int v1), (2, .int v2), (3, .int a)]) (fun a : Int32 => s10) 0 (fun a => t_Mo_told_L101 G hR hL C  v1 v2 a s10 (fun _ h => h) (fun _ h => h) hr) (fun b16 => ?_)
    refine jr_aload_n C 0 rfl rfl dX12_told_162 ?_
    refine jr_getI C FX_10 61 oS_0.1 oS_0.2 ff_10_61.1 ff_10_61.2 fl_X12_400 dX12_told_163 ?_
    refine jr_bipush C bp_60 dX12_told_166 ?_
    refine jr_icmp_ne C (tgt := 172) dX12_told_168 (by decide) (fun h17 => ?_) (fun h17 => ?_)
    · refine jo_neg h17 ?_
      refine jr_aload_n C 0 rfl rfl dX12_told_172 ?_
      refine jr_getR C FX_10 57 oS_0.1 oS_0.2 ff_10_57.1 ff_10_57.2 rfl fl_X12_130 dX12_told_173 ?_
      refine jr_aload_n C 0 rfl rfl dX12_told_176 ?_
      refine jr_getI C FX_10 61 oS_0.1 oS_0.2 ff_10_61.1 ff_10_61.2 fl_X12_400 dX12_told_177 ?_
      refine jr_iload_n C 1 rfl rfl dX12_told_180 ?_
      refine jr_iast C oS_38.1 oS_38.2.1 oS_38.2.2 dX12_told_181 (jr_ltS fun s18 => ?_)
      refine jr_aload_n C 0 rfl rfl dX12_told_182 ?_
      refine jr_getR C FX_10 58 oS_0.1 oS_0.2 ff_10_58.1 ff_10_58.2 rfl fl_X12_133 dX12_told_183 ?_
      refine jr_aload_n C 0 rfl rfl dX12_told_186 ?_
      refine jr_getI C FX_10 61 oS_0.1 oS_0.2 ff_10_61.1 ff_10_61.2 fl_X12_400 dX12_told_187 ?_
      refine jr_aload_n C 0 rfl rfl dX12_told_190 ?_
      refine jr_getI C FX_10 69 oS_0.1 oS_0.2 ff_10_69.1 ff_10_69.2 fl_X12_420 dX12_told_191 ?_
      refine jr_iast C oS_39.1 oS_39.2.1 oS_39.2.2 dX12_told_194 (jr_ltS fun s19 => ?_)
      refine jr_aload_n C 0 rfl rfl dX12_told_195 ?_
      refine jr_getR C FX_10 59 oS_0.1 oS_0.2 ff_10_59.1 ff_10_59.2 rfl fl_X12_136 dX12_told_196 ?_
      refine jr_aload_n C 0 rfl rfl dX12_told_199 ?_
      refine jr_getI C FX_10 61 oS_0.1 oS_0.2 ff_10_61.1 ff_10_61.2 fl_X12_400 dX12_told_200 ?_
      refine jr_iload_n C 2 rfl rfl dX12_told_203 ?_
      refine jr_iast C oS_40.1 oS_40.2.1 oS_40.2.2 dX12_told_204 (jr_ltS fun s20 => ?_)
      refine jr_aload_n C 0 rfl rfl dX12_told_205 ?_
      refine jr_getR C FX_10 60 oS_0.1 oS_0.2 ff_10_60.1 ff_10_60.2 rfl fl_X12_139 dX12_told_206 ?_
      refine jr_aload_n C 0 rfl rfl dX12_told_209 ?_
      refine jr_getI C FX_10 61 oS_0.1 oS_0.2 ff_10_61.1 ff_10_61.2 fl_X12_400 dX12_told_210 ?_
      refine jr_iconst C ic_1 dX12_told_213 ?_
      refine jr_iast C oS_41.1 oS_41.2.1 oS_41.2.2 dX12_told_214 (jr_ltS fun s21 => ?_)
      refine jr_aload_n C 0 rfl rfl dX12_told_215 ?_
      refine jr_dup C rfl dX12_told_216 ?_
      refine jr_getI C FX_10 61 oS_0.1 oS_0.2 ff_10_61.1 ff_10_61.2 fl_X12_400 dX12_told_217 ?_
      refine jr_iconst C ic_1 dX12_told_220 ?_
      refine jr_iadd C dX12_told_221 ?_
      refine jr_putI C FX_10 61 oS_0.1 oS_0.2 ff_10_61.1 ff_10_61.2 rfl rfl fl_X12_400 dX12_told_222 (jr_ltS fun s22 => ?_)
      exact jr_end (fun h => hr s22 h _ _ dX12_told_225)
    refine jo_pos h17 ?_
    exact jr_end (fun h => hr s10 h _ _ dX12_told_171)
  refine jo_pos h1 ?_
  exact jr_end (fun h => hr s h _ _ dX12_told_8)
set_option maxRecDepth 100000 in
theorem c_Mo_told (l : Launch)  (v1 : Int32) (v2 : Int32) (s : St) {q : St} (h : f_Mo_told v1 v2 s = some q) : CT SM l yX12_told cX12_told 4 none 0 0 (fun a => [.ref (a 0), .int v1, .int v2]) s q (fun _ => none) :=
  ct_V okX_M (by decide) (fun _ => Nat.le_of_ble_eq_true rfl) (fun G hl hR hL C hr => t_Mo_told G hR hL C (Acc := fun v => v = q)  v1 v2 s (fun v hv => by rw [hv]; exact hr) ⟨_, h, rfl⟩)
noncomputable def f_Mo_trap (v1 : Int32) (s : St) : Option St :=
  gd (s.1 0 28) 2 <|
  if (s.1 21 ((s.1 0 28) : Int32).toNatClampNeg) ≤ 0 then
  (gd (s.1 0 28) 2 <|
  lt (uI s 21 ((s.1 0 28) : Int32).toNatClampNeg (1 + v1)) fun s2 =>
  gd (s2.1 0 28) 2 <|
  gd (s2.1 0 28) 2 <|
  lt (uI s2 23 ((s2.1 0 28) : Int32).toNatClampNeg (((((s2.1 23 ((s2.1 0 28) : Int32).toNatClampNeg) * 31) + 4) * 31) + v1)) fun s3 =>
  some s3)
  else
  some s
set_option maxHeartbeats 4000000 in
set_option maxRecDepth 100000 in
theorem t_Mo_trap (G : GG) (hR : gR G = rmx 0 0) (hL : gL G = 2) (C : Cx SM G cX12_trap RX12) {Acc : St → Prop}  (v1 : Int32) (s : St) (hr : ∀ v : St, Acc v → RtV SM G cX12_trap v) : JJ SM G Acc (f_Mo_trap v1 s) 0 [(0, .ref (ad G 0)), (1, .int v1)] [] s := by
  unfold f_Mo_trap
  refine jr_aload_n C 0 rfl rfl dX12_trap_0 ?_
  refine jr_getR C FX_10 38 oS_0.1 oS_0.2 ff_10_38.1 ff_10_38.2 rfl fl_X12_79 dX12_trap_1 ?_
  refine jr_aload_n C 0 rfl rfl dX12_trap_4 ?_
  refine jr_getI C FX_10 28 oS_0.1 oS_0.2 ff_10_28.1 ff_10_28.2 fl_X12_394 dX12_trap_5 ?_
  refine jr_iald C oS_21.1 oS_21.2.1 oS_21.2.2 dX12_trap_8 ?_
  refine jr_if_le C (tgt := 13) dX12_trap_9 (by decide) (fun h1 => ?_) (fun h1 => ?_)
  · refine jo_pos h1 ?_
    refine jr_aload_n C 0 rfl rfl dX12_trap_13 ?_
    refine jr_getR C FX_10 38 oS_0.1 oS_0.2 ff_10_38.1 ff_10_38.2 rfl fl_X12_79 dX12_trap_14 ?_
    refine jr_aload_n C 0 rfl rfl dX12_trap_17 ?_
    refine jr_getI C FX_10 28 oS_0.1 oS_0.2 ff_10_28.1 ff_10_28.2 fl_X12_394 dX12_trap_18 ?_
    refine jr_iconst C ic_1 dX12_trap_21 ?_
    refine jr_iload_n C 1 rfl rfl dX12_trap_22 ?_
    refine jr_iadd C dX12_trap_23 ?_
    refine jr_iast C oS_21.1 oS_21.2.1 oS_21.2.2 dX12_trap_24 (jr_ltS fun s2 => ?_)
    refine jr_aload_n C 0 rfl rfl dX12_trap_25 ?_
    refine jr_getR C FX_10 40 oS_0.1 oS_0.2 ff_10_40.1 ff_10_40.2 rfl fl_X12_85 dX12_trap_26 ?_
    refine jr_aload_n C 0 rfl rfl dX12_trap_29 ?_
    refine jr_getI C FX_10 28 oS_0.1 oS_0.2 ff_10_28.1 ff_10_28.2 fl_X12_394 dX12_trap_30 ?_
    refine jr_aload_n C 0 rfl rfl dX12_trap_33 ?_
    refine jr_getR C FX_10 40 oS_0.1 oS_0.2 ff_10_40.1 ff_10_40.2 rfl fl_X12_85 dX12_trap_34 ?_
    refine jr_aload_n C 0 rfl rfl dX12_trap_37 ?_
    refine jr_getI C FX_10 28 oS_0.1 oS_0.2 ff_10_28.1 ff_10_28.2 fl_X12_394 dX12_trap_38 ?_
    refine jr_iald C oS_23.1 oS_23.2.1 oS_23.2.2 dX12_trap_41 ?_
    refine jr_bipush C bp_31 dX12_trap_42 ?_
    refine jr_imul C dX12_trap_44 ?_
    refine jr_iconst C ic_4 dX12_trap_45 ?_
    refine jr_iadd C dX12_trap_46 ?_
    refine jr_bipush C bp_31 dX12_trap_47 ?_
    refine jr_imul C dX12_trap_49 ?_
    refine jr_iload_n C 1 rfl rfl dX12_trap_50 ?_
    refine jr_iadd C dX12_trap_51 ?_
    refine jr_iast C oS_23.1 oS_23.2.1 oS_23.2.2 dX12_trap_52 (jr_ltS fun s3 => ?_)
    exact jr_end (fun h => hr s3 h _ _ dX12_trap_53)
  refine jo_neg h1 ?_
  exact jr_end (fun h => hr s h _ _ dX12_trap_12)
set_option maxRecDepth 100000 in
theorem c_Mo_trap (l : Launch)  (v1 : Int32) (s : St) {q : St} (h : f_Mo_trap v1 s = some q) : CT SM l yX12_trap cX12_trap 2 none 0 0 (fun a => [.ref (a 0), .int v1]) s q (fun _ => none) :=
  ct_V okX_M (by decide) (fun _ => Nat.le_of_ble_eq_true rfl) (fun G hl hR hL C hr => t_Mo_trap G hR hL C (Acc := fun v => v = q)  v1 s (fun v hv => by rw [hv]; exact hr) ⟨_, h, rfl⟩)
noncomputable def f_Mo_value (v1 : Int32) (s : St) : Option Int32 :=
  gd v1 1200 <|
  if (s.1 4 (v1 : Int32).toNatClampNeg) = 0 then
  (gd v1 1200 <|
  some (s.1 5 (v1 : Int32).toNatClampNeg))
  else
  gd v1 1200 <|
  gd ((8 * (s.1 0 28)) + (s.1 5 (v1 : Int32).toNatClampNeg)) 16 <|
  some (s.1 13 (((8 * (s.1 0 28)) + (s.1 5 (v1 : Int32).toNatClampNeg)) : Int32).toNatClampNeg)
set_option maxHeartbeats 4000000 in
set_option maxRecDepth 100000 in
theorem t_Mo_value (G : GG) (hR : gR G = rmx 0 0) (hL : gL G = 2) (C : Cx SM G cX12_value RX12) {Acc : Int32 → Prop}  (v1 : Int32) (s : St) (hr : ∀ v : Int32, Acc v → RtI SM G cX12_value v s) : JJ SM G Acc (f_Mo_value v1 s) 0 [(0, .ref (ad G 0)), (1, .int v1)] [] s := by
  unfold f_Mo_value
  refine jr_aload_n C 0 rfl rfl dX12_value_0 ?_
  refine jr_getR C FX_10 5 oS_0.1 oS_0.2 ff_10_5.1 ff_10_5.2 rfl fl_X12_20 dX12_value_1 ?_
  refine jr_iload_n C 1 rfl rfl dX12_value_4 ?_
  refine jr_zald C oS_4.1 oS_4.2.1 oS_4.2.2 dX12_value_5 ?_
  refine jr_if_eq C (tgt := 31) dX12_value_6 (by decide) (fun h1 => ?_) (fun h1 => ?_)
  · refine jo_pos h1 ?_
    refine jr_aload_n C 0 rfl rfl dX12_value_31 ?_
    refine jr_getR C FX_10 6 oS_0.1 oS_0.2 ff_10_6.1 ff_10_6.2 rfl fl_X12_24 dX12_value_32 ?_
    refine jr_iload_n C 1 rfl rfl dX12_value_35 ?_
    refine jr_iald C oS_5.1 oS_5.2.1 oS_5.2.2 dX12_value_36 ?_
    exact jr_end (fun h => hr (s.1 5 (v1 : Int32).toNatClampNeg) h _ _ dX12_value_37)
  refine jo_neg h1 ?_
  refine jr_aload_n C 0 rfl rfl dX12_value_9 ?_
  refine jr_getR C FX_10 30 oS_0.1 oS_0.2 ff_10_30.1 ff_10_30.2 rfl fl_X12_55 dX12_value_10 ?_
  refine jr_bipush C bp_8 dX12_value_13 ?_
  refine jr_aload_n C 0 rfl rfl dX12_value_15 ?_
  refine jr_getI C FX_10 28 oS_0.1 oS_0.2 ff_10_28.1 ff_10_28.2 fl_X12_394 dX12_value_16 ?_
  refine jr_imul C dX12_value_19 ?_
  refine jr_aload_n C 0 rfl rfl dX12_value_20 ?_
  refine jr_getR C FX_10 6 oS_0.1 oS_0.2 ff_10_6.1 ff_10_6.2 rfl fl_X12_24 dX12_value_21 ?_
  refine jr_iload_n C 1 rfl rfl dX12_value_24 ?_
  refine jr_iald C oS_5.1 oS_5.2.1 oS_5.2.2 dX12_value_25 ?_
  refine jr_iadd C dX12_value_26 ?_
  refine jr_iald C oS_13.1 oS_13.2.1 oS_13.2.2 dX12_value_27 ?_
  refine jr_goto C (tgt := 37) dX12_value_28 (by decide) ?_
  exact jr_end (fun h => hr (s.1 13 (((8 * (s.1 0 28)) + (s.1 5 (v1 : Int32).toNatClampNeg)) : Int32).toNatClampNeg) h _ _ dX12_value_37)
set_option maxRecDepth 100000 in
theorem c_Mo_value (l : Launch)  (v1 : Int32) (s : St) {q : Int32} (h : f_Mo_value v1 s = some q) : CT SM l yX12_value cX12_value 2 (some .int) 0 0 (fun a => [.ref (a 0), .int v1]) s s (fun _ => some (.int q)) :=
  ct_I okX_M (by decide) (fun _ => Nat.le_of_ble_eq_true rfl) (fun G hl hR hL C hr => t_Mo_value G hR hL C (Acc := fun v => v = q)  v1 s (fun v hv => by rw [hv]; exact hr) ⟨_, h, rfl⟩)
noncomputable def f_Mo_shade (v1 : Int32) (s : St) : Option Int32 :=
  gd v1 1200 <|
  if (s.1 4 (v1 : Int32).toNatClampNeg) = 0 then
  some 0
  else
  gd v1 1200 <|
  gd ((8 * (s.1 0 28)) + (s.1 5 (v1 : Int32).toNatClampNeg)) 16 <|
  some (s.1 14 (((8 * (s.1 0 28)) + (s.1 5 (v1 : Int32).toNatClampNeg)) : Int32).toNatClampNeg)
set_option maxHeartbeats 4000000 in
set_option maxRecDepth 100000 in
theorem t_Mo_shade (G : GG) (hR : gR G = rmx 0 0) (hL : gL G = 2) (C : Cx SM G cX12_shade RX12) {Acc : Int32 → Prop}  (v1 : Int32) (s : St) (hr : ∀ v : Int32, Acc v → RtI SM G cX12_shade v s) : JJ SM G Acc (f_Mo_shade v1 s) 0 [(0, .ref (ad G 0)), (1, .int v1)] [] s := by
  unfold f_Mo_shade
  refine jr_aload_n C 0 rfl rfl dX12_shade_0 ?_
  refine jr_getR C FX_10 5 oS_0.1 oS_0.2 ff_10_5.1 ff_10_5.2 rfl fl_X12_20 dX12_shade_1 ?_
  refine jr_iload_n C 1 rfl rfl dX12_shade_4 ?_
  refine jr_zald C oS_4.1 oS_4.2.1 oS_4.2.2 dX12_shade_5 ?_
  refine jr_if_eq C (tgt := 31) dX12_shade_6 (by decide) (fun h1 => ?_) (fun h1 => ?_)
  · refine jo_pos h1 ?_
    refine jr_iconst C ic_0 dX12_shade_31 ?_
    exact jr_end (fun h => hr 0 h _ _ dX12_shade_32)
  refine jo_neg h1 ?_
  refine jr_aload_n C 0 rfl rfl dX12_shade_9 ?_
  refine jr_getR C FX_10 31 oS_0.1 oS_0.2 ff_10_31.1 ff_10_31.2 rfl fl_X12_58 dX12_shade_10 ?_
  refine jr_bipush C bp_8 dX12_shade_13 ?_
  refine jr_aload_n C 0 rfl rfl dX12_shade_15 ?_
  refine jr_getI C FX_10 28 oS_0.1 oS_0.2 ff_10_28.1 ff_10_28.2 fl_X12_394 dX12_shade_16 ?_
  refine jr_imul C dX12_shade_19 ?_
  refine jr_aload_n C 0 rfl rfl dX12_shade_20 ?_
  refine jr_getR C FX_10 6 oS_0.1 oS_0.2 ff_10_6.1 ff_10_6.2 rfl fl_X12_24 dX12_shade_21 ?_
  refine jr_iload_n C 1 rfl rfl dX12_shade_24 ?_
  refine jr_iald C oS_5.1 oS_5.2.1 oS_5.2.2 dX12_shade_25 ?_
  refine jr_iadd C dX12_shade_26 ?_
  refine jr_iald C oS_14.1 oS_14.2.1 oS_14.2.2 dX12_shade_27 ?_
  refine jr_goto C (tgt := 32) dX12_shade_28 (by decide) ?_
  exact jr_end (fun h => hr (s.1 14 (((8 * (s.1 0 28)) + (s.1 5 (v1 : Int32).toNatClampNeg)) : Int32).toNatClampNeg) h _ _ dX12_shade_32)
set_option maxRecDepth 100000 in
theorem c_Mo_shade (l : Launch)  (v1 : Int32) (s : St) {q : Int32} (h : f_Mo_shade v1 s = some q) : CT SM l yX12_shade cX12_shade 2 (some .int) 0 0 (fun a => [.ref (a 0), .int v1]) s s (fun _ => some (.int q)) :=
  ct_I okX_M (by decide) (fun _ => Nat.le_of_ble_eq_true rfl) (fun G hl hR hL C hr => t_Mo_shade G hR hL C (Acc := fun v => v = q)  v1 s (fun v hv => by rw [hv]; exact hr) ⟨_, h, rfl⟩)
noncomputable def f_Mo_origin (v1 : Int32) (s : St) : Option Int32 :=
  gd v1 1200 <|
  if (s.1 4 (v1 : Int32).toNatClampNeg) = 0 then
  some 0
  else
  gd v1 1200 <|
  gd ((8 * (s.1 0 28)) + (s.1 5 (v1 : Int32).toNatClampNeg)) 16 <|
  some (s.1 15 (((8 * (s.1 0 28)) + (s.1 5 (v1 : Int32).toNatClampNeg)) : Int32).toNatClampNeg)
set_option maxHeartbeats 4000000 in
set_option maxRecDepth 100000 in
theorem t_Mo_origin (G : GG) (hR : gR G = rmx 0 0) (hL : gL G = 2) (C : Cx SM G cX12_origin RX12) {Acc : Int32 → Prop}  (v1 : Int32) (s : St) (hr : ∀ v : Int32, Acc v → RtI SM G cX12_origin v s) : JJ SM G Acc (f_Mo_origin v1 s) 0 [(0, .ref (ad G 0)), (1, .int v1)] [] s := by
  unfold f_Mo_origin
  refine jr_aload_n C 0 rfl rfl dX12_origin_0 ?_
  refine jr_getR C FX_10 5 oS_0.1 oS_0.2 ff_10_5.1 ff_10_5.2 rfl fl_X12_20 dX12_origin_1 ?_
  refine jr_iload_n C 1 rfl rfl dX12_origin_4 ?_
  refine jr_zald C oS_4.1 oS_4.2.1 oS_4.2.2 dX12_origin_5 ?_
  refine jr_if_eq C (tgt := 31) dX12_origin_6 (by decide) (fun h1 => ?_) (fun h1 => ?_)
  · refine jo_pos h1 ?_
    refine jr_iconst C ic_0 dX12_origin_31 ?_
    exact jr_end (fun h => hr 0 h _ _ dX12_origin_32)
  refine jo_neg h1 ?_
  refine jr_aload_n C 0 rfl rfl dX12_origin_9 ?_
  refine jr_getR C FX_10 32 oS_0.1 oS_0.2 ff_10_32.1 ff_10_32.2 rfl fl_X12_61 dX12_origin_10 ?_
  refine jr_bipush C bp_8 dX12_origin_13 ?_
  refine jr_aload_n C 0 rfl rfl dX12_origin_15 ?_
  refine jr_getI C FX_10 28 oS_0.1 oS_0.2 ff_10_28.1 ff_10_28.2 fl_X12_394 dX12_origin_16 ?_
  refine jr_imul C dX12_origin_19 ?_
  refine jr_aload_n C 0 rfl rfl dX12_origin_20 ?_
  refine jr_getR C FX_10 6 oS_0.1 oS_0.2 ff_10_6.1 ff_10_6.2 rfl fl_X12_24 dX12_origin_21 ?_
  refine jr_iload_n C 1 rfl rfl dX12_origin_24 ?_
  refine jr_iald C oS_5.1 oS_5.2.1 oS_5.2.2 dX12_origin_25 ?_
  refine jr_iadd C dX12_origin_26 ?_
  refine jr_iald C oS_15.1 oS_15.2.1 oS_15.2.2 dX12_origin_27 ?_
  refine jr_goto C (tgt := 32) dX12_origin_28 (by decide) ?_
  exact jr_end (fun h => hr (s.1 15 (((8 * (s.1 0 28)) + (s.1 5 (v1 : Int32).toNatClampNeg)) : Int32).toNatClampNeg) h _ _ dX12_origin_32)
set_option maxRecDepth 100000 in
theorem c_Mo_origin (l : Launch)  (v1 : Int32) (s : St) {q : Int32} (h : f_Mo_origin v1 s = some q) : CT SM l yX12_origin cX12_origin 2 (some .int) 0 0 (fun a => [.ref (a 0), .int v1]) s s (fun _ => some (.int q)) :=
  ct_I okX_M (by decide) (fun _ => Nat.le_of_ble_eq_true rfl) (fun G hl hR hL C hr => t_Mo_origin G hR hL C (Acc := fun v => v = q)  v1 s (fun v hv => by rw [hv]; exact hr) ⟨_, h, rfl⟩)
noncomputable def f_Mo_originOf_J17 (v0 : Int32) (v1 : Int32) : Int32 :=
  if v0 = 0 then
  0
  else
  v1
set_option maxHeartbeats 4000000 in
set_option maxRecDepth 100000 in
theorem t_Mo_originOf_J17 (G : GG) (hR : gR G = rmx 0 0) (hL : gL G = 4) (C : Cx SM G cX12_originOf RX12) {Acc : Int32 → Prop}  (v0 : Int32) (v1 : Int32) (s : St) (hr : ∀ v : Int32, Acc v → RtI SM G cX12_originOf v s) : JJ SM G Acc (some (f_Mo_originOf_J17 v0 v1)) 17 [(0, .int v0), (1, .int v1)] [] s := by
  unfold f_Mo_originOf_J17
  refine jr_iload_n C 0 rfl rfl dX12_originOf_17 ?_
  refine jr_if_eq C (tgt := 25) dX12_originOf_18 (by decide) (fun h2 => ?_) (fun h2 => ?_)
  · refine jo_posP h2 ?_
    refine jr_iconst C ic_0 dX12_originOf_25 ?_
    exact jr_end (fun h => hr 0 h _ _ dX12_originOf_26)
  refine jo_negP h2 ?_
  refine jr_iload_n C 1 rfl rfl dX12_originOf_21 ?_
  refine jr_goto C (tgt := 26) dX12_originOf_22 (by decide) ?_
  exact jr_end (fun h => hr v1 h _ _ dX12_originOf_26)
noncomputable def f_Mo_originOf (v0 : Int32) (v1 : Int32) (v2 : Int32) (v3 : Int32) : Int32 :=
  if v2 = 0 then
  f_Mo_originOf_J17 v0 v1
  else
  if v0 = 0 then
  v3
  else
  if v3 ≤ v1 then
  f_Mo_originOf_J17 v0 v1
  else
  v3
set_option maxHeartbeats 4000000 in
set_option maxRecDepth 100000 in
theorem t_Mo_originOf (G : GG) (hR : gR G = rmx 0 0) (hL : gL G = 4) (C : Cx SM G cX12_originOf RX12) {Acc : Int32 → Prop}  (v0 : Int32) (v1 : Int32) (v2 : Int32) (v3 : Int32) (s : St) (hr : ∀ v : Int32, Acc v → RtI SM G cX12_originOf v s) : JJ SM G Acc (some (f_Mo_originOf v0 v1 v2 v3)) 0 [(0, .int v0), (1, .int v1), (2, .int v2), (3, .int v3)] [] s := by
  unfold f_Mo_originOf
  refine jr_iload_n C 2 rfl rfl dX12_originOf_0 ?_
  refine jr_if_eq C (tgt := 17) dX12_originOf_1 (by decide) (fun h1 => ?_) (fun h1 => ?_)
  · refine jo_posP h1 ?_
    refine jr_lv [0, 1] rfl ?_
    exact t_Mo_originOf_J17 G hR hL C  v0 v1 s hr
  refine jo_negP h1 ?_
  refine jr_iload_n C 0 rfl rfl dX12_originOf_4 ?_
  refine jr_if_eq C (tgt := 13) dX12_originOf_5 (by decide) (fun h3 => ?_) (fun h3 => ?_)
  · refine jo_posP h3 ?_
    refine jr_iload_n C 3 rfl rfl dX12_originOf_13 ?_
    refine jr_goto C (tgt := 26) dX12_originOf_14 (by decide) ?_
    exact jr_end (fun h => hr v3 h _ _ dX12_originOf_26)
  refine jo_negP h3 ?_
  refine jr_iload_n C 3 rfl rfl dX12_originOf_8 ?_
  refine jr_iload_n C 1 rfl rfl dX12_originOf_9 ?_
  refine jr_icmp_le C (tgt := 17) dX12_originOf_10 (by decide) (fun h4 => ?_) (fun h4 => ?_)
  · refine jo_posP h4 ?_
    refine jr_lv [0, 1] rfl ?_
    exact t_Mo_originOf_J17 G hR hL C  v0 v1 s hr
  refine jo_negP h4 ?_
  refine jr_iload_n C 3 rfl rfl dX12_originOf_13 ?_
  refine jr_goto C (tgt := 26) dX12_originOf_14 (by decide) ?_
  exact jr_end (fun h => hr v3 h _ _ dX12_originOf_26)
set_option maxRecDepth 100000 in
theorem c_Mo_originOf (l : Launch)  (v0 : Int32) (v1 : Int32) (v2 : Int32) (v3 : Int32) (s : St) : CT SM l yX12_originOf cX12_originOf 4 (some .int) 0 0 (fun a => [.int v0, .int v1, .int v2, .int v3]) s s (fun _ => some (.int (f_Mo_originOf v0 v1 v2 v3))) :=
  ct_I okX_M (by decide) (fun _ => Nat.le_of_ble_eq_true rfl) (fun G hl hR hL C hr => t_Mo_originOf G hR hL C (Acc := fun v => v = (f_Mo_originOf v0 v1 v2 v3))  v0 v1 v2 v3 s (fun v hv => by rw [hv]; exact hr) ⟨_, rfl, rfl⟩)
noncomputable def f_Mo_give_J161 (w0 : Int32) (w1 : Int32) (s : St) : Option St :=
  gd w1 16 <|
  lt (uI s 15 (w1 : Int32).toNatClampNeg w0) fun s5 =>
  some s5
set_option maxHeartbeats 4000000 in
set_option maxRecDepth 100000 in
theorem t_Mo_give_J161 (G : GG) (hR : gR G = rmx 2 43) (hL : gL G = 6) (C : Cx SM G cX12_give RX12) {Acc : St → Prop}  (w0 : Int32) (w1 : Int32) (s : St) (hr : ∀ v : St, Acc v → RtV SM G cX12_give v) : JJ SM G Acc (f_Mo_give_J161 w0 w1 s) 161 [] [.int w0, .int w1, .ref (ad G 15)] s := by
  unfold f_Mo_give_J161
  refine jr_iast C oS_15.1 oS_15.2.1 oS_15.2.2 dX12_give_161 (jr_ltS fun s5 => ?_)
  exact jr_end (fun h => hr s5 h _ _ dX12_give_162)
noncomputable def f_Mo_give_J108 (v1 : Int32) (v2 : Int32) (v3 : Int32) (v4 : Int32) (s : St) : Option St :=
  gd ((8 * (s.1 0 28)) + v1) 16 <|
  lt (uI s 13 (((8 * (s.1 0 28)) + v1) : Int32).toNatClampNeg v2) fun s2 =>
  gd ((8 * (s2.1 0 28)) + v1) 16 <|
  lt (uI s2 14 (((8 * (s2.1 0 28)) + v1) : Int32).toNatClampNeg v3) fun s3 =>
  if v3 = 0 then
  f_Mo_give_J161 0 ((8 * (s3.1 0 28)) + v1) s3
  else
  f_Mo_give_J161 v4 ((8 * (s3.1 0 28)) + v1) s3
set_option maxHeartbeats 4000000 in
set_option maxRecDepth 100000 in
theorem t_Mo_give_J108 (G : GG) (hR : gR G = rmx 2 43) (hL : gL G = 6) (C : Cx SM G cX12_give RX12) {Acc : St → Prop}  (v1 : Int32) (v2 : Int32) (v3 : Int32) (v4 : Int32) (s : St) (hr : ∀ v : St, Acc v → RtV SM G cX12_give v) : JJ SM G Acc (f_Mo_give_J108 v1 v2 v3 v4 s) 108 [(0, .ref (ad G 0)), (1, .int v1), (2, .int v2), (3, .int v3), (4, .int v4)] [] s := by
  unfold f_Mo_give_J108
  refine jr_aload_n C 0 rfl rfl dX12_give_108 ?_
  refine jr_getR C FX_10 30 oS_0.1 oS_0.2 ff_10_30.1 ff_10_30.2 rfl fl_X12_55 dX12_give_109 ?_
  refine jr_bipush C bp_8 dX12_give_112 ?_
  refine jr_aload_n C 0 rfl rfl dX12_give_114 ?_
  refine jr_getI C FX_10 28 oS_0.1 oS_0.2 ff_10_28.1 ff_10_28.2 fl_X12_394 dX12_give_115 ?_
  refine jr_imul C dX12_give_118 ?_
  refine jr_iload_n C 1 rfl rfl dX12_give_119 ?_
  refine jr_iadd C dX12_give_120 ?_
  refine jr_iload_n C 2 rfl rfl dX12_give_121 ?_
  refine jr_iast C oS_13.1 oS_13.2.1 oS_13.2.2 dX12_give_122 (jr_ltS fun s2 => ?_)
  refine jr_aload_n C 0 rfl rfl dX12_give_123 ?_
  refine jr_getR C FX_10 31 oS_0.1 oS_0.2 ff_10_31.1 ff_10_31.2 rfl fl_X12_58 dX12_give_124 ?_
  refine jr_bipush C bp_8 dX12_give_127 ?_
  refine jr_aload_n C 0 rfl rfl dX12_give_129 ?_
  refine jr_getI C FX_10 28 oS_0.1 oS_0.2 ff_10_28.1 ff_10_28.2 fl_X12_394 dX12_give_130 ?_
  refine jr_imul C dX12_give_133 ?_
  refine jr_iload_n C 1 rfl rfl dX12_give_134 ?_
  refine jr_iadd C dX12_give_135 ?_
  refine jr_iload_n C 3 rfl rfl dX12_give_136 ?_
  refine jr_iast C oS_14.1 oS_14.2.1 oS_14.2.2 dX12_give_137 (jr_ltS fun s3 => ?_)
  refine jr_aload_n C 0 rfl rfl dX12_give_138 ?_
  refine jr_getR C FX_10 32 oS_0.1 oS_0.2 ff_10_32.1 ff_10_32.2 rfl fl_X12_61 dX12_give_139 ?_
  refine jr_bipush C bp_8 dX12_give_142 ?_
  refine jr_aload_n C 0 rfl rfl dX12_give_144 ?_
  refine jr_getI C FX_10 28 oS_0.1 oS_0.2 ff_10_28.1 ff_10_28.2 fl_X12_394 dX12_give_145 ?_
  refine jr_imul C dX12_give_148 ?_
  refine jr_iload_n C 1 rfl rfl dX12_give_149 ?_
  refine jr_iadd C dX12_give_150 ?_
  refine jr_iload_n C 3 rfl rfl dX12_give_151 ?_
  refine jr_if_ne C (tgt := 159) dX12_give_152 (by decide) (fun h4 => ?_) (fun h4 => ?_)
  · refine jo_neg h4 ?_
    refine jr_iload C 4 rfl dX12_give_159 ?_
    refine jr_lv [] rfl ?_
    exact t_Mo_give_J161 G hR hL C  v4 ((8 * (s3.1 0 28)) + v1) s3 hr
  refine jo_pos h4 ?_
  refine jr_iconst C ic_0 dX12_give_155 ?_
  refine jr_goto C (tgt := 161) dX12_give_156 (by decide) ?_
  refine jr_lv [] rfl ?_
  exact t_Mo_give_J161 G hR hL C  0 ((8 * (s3.1 0 28)) + v1) s3 hr
noncomputable def f_Mo_give_J24  (s : St) : Option St :=
  (f_Mo_trap 2 s).bind fun q7 =>
  some q7
set_option maxHeartbeats 4000000 in
set_option maxRecDepth 100000 in
theorem t_Mo_give_J24 (G : GG) (hR : gR G = rmx 2 43) (hL : gL G = 6) (C : Cx SM G cX12_give RX12) {Acc : St → Prop}   (s : St) (hr : ∀ v : St, Acc v → RtV SM G cX12_give v) : JJ SM G Acc (f_Mo_give_J24 s) 24 [(0, .ref (ad G 0))] [] s := by
  unfold f_Mo_give_J24
  refine jr_aload_n C 0 rfl rfl dX12_give_24 ?_
  refine jr_iconst C ic_2 dX12_give_25 ?_
  refine jr_bind (fun q7 e8 => ?_)
  refine jr_callVV C FX_10 km_X12_423 oS_0.1 oS_0.2 (rk hR rfl) (c_Mo_trap (gl G) 2 s e8) rfl rfl rfl (Nat.le_of_ble_eq_true rfl) dX12_give_26 ?_
  exact jr_end (fun h => hr q7 h _ _ dX12_give_29)
noncomputable def f_Mo_give_J102_1 (v1 : Int32) (v2 : Int32) (v3 : Int32) (v4 : Int32) (v5 : Int32) (s : St) : Option ((Int32 × St) ⊕ (Int32 × St)) :=
  some (.inl ((v5 + 1), s))
set_option maxHeartbeats 4000000 in
set_option maxRecDepth 100000 in
theorem t_Mo_give_J102_1 (G : GG) (hR : gR G = rmx 2 43) (hL : gL G = 6) (C : Cx SM G cX12_give RX12) {Acc : ((Int32 × St) ⊕ (Int32 × St)) → Prop}  (v1 : Int32) (v2 : Int32) (v3 : Int32) (v4 : Int32) (v5 : Int32) (s : St) (hb1 : ∀ (a5 : Int32) (t : St), Acc (.inl (a5, t)) → KK SM G 35 [(0, .ref (ad G 0)), (1, .int v1), (2, .int v2), (3, .int v3), (4, .int v4), (5, .int a5)] [] t) (hx1 : ∀ (a5 : Int32) (t : St), Acc (.inr (a5, t)) → KK SM G 108 [(0, .ref (ad G 0)), (1, .int v1), (2, .int v2), (3, .int v3), (4, .int v4), (5, .int a5)] [] t) : JJ SM G Acc (f_Mo_give_J102_1 v1 v2 v3 v4 v5 s) 102 [(0, .ref (ad G 0)), (1, .int v1), (2, .int v2), (3, .int v3), (4, .int v4), (5, .int v5)] [] s := by
  unfold f_Mo_give_J102_1
  refine jr_iinc C 5 rfl ii_1 (lv' := [(5, .int (v5 + 1)), (0, .ref (ad G 0)), (1, .int v1), (2, .int v2), (3, .int v3), (4, .int v4)]) (ltL hL rfl) rfl dX12_give_102 ?_
  refine jr_goto C (tgt := 35) dX12_give_105 (by decide) ?_
  refine jr_lv [1, 2, 3, 4, 5, 0] rfl ?_
  exact jr_end (fun h => hb1 (v5 + 1) s h)
noncomputable def f_Mo_give_L35 (v1 : Int32) (v2 : Int32) (v3 : Int32) (v4 : Int32) (v5 : Int32) (s : St) : Option ((Int32 × St) ⊕ (Int32 × St)) :=
  if 4096 ≤ v5 then
  some (.inr (v5, s))
  else
  if v2 ≤ v5 then
  (gd ((4096 * (s.1 0 28)) + v5) 8192 <|
  if (s.1 19 (((4096 * (s.1 0 28)) + v5) : Int32).toNatClampNeg) = 0 then
  ((f_Mo_unset v5 (512 + (s.1 0 69)) s).bind fun q14 =>
  f_Mo_give_J102_1 v1 v2 v3 v4 v5 q14)
  else
  f_Mo_give_J102_1 v1 v2 v3 v4 v5 s)
  else
  gd ((4096 * (s.1 0 28)) + v5) 8192 <|
  lt (uI s 19 (((4096 * (s.1 0 28)) + v5) : Int32).toNatClampNeg (bN 0)) fun s16 =>
  f_Mo_give_J102_1 v1 v2 v3 v4 v5 s16
set_option maxHeartbeats 4000000 in
set_option maxRecDepth 100000 in
theorem t_Mo_give_L35 (G : GG) (hR : gR G = rmx 2 43) (hL : gL G = 6) (C : Cx SM G cX12_give RX12) {Acc : ((Int32 × St) ⊕ (Int32 × St)) → Prop}  (v1 : Int32) (v2 : Int32) (v3 : Int32) (v4 : Int32) (v5 : Int32) (s : St) (hb1 : ∀ (a5 : Int32) (t : St), Acc (.inl (a5, t)) → KK SM G 35 [(0, .ref (ad G 0)), (1, .int v1), (2, .int v2), (3, .int v3), (4, .int v4), (5, .int a5)] [] t) (hx1 : ∀ (a5 : Int32) (t : St), Acc (.inr (a5, t)) → KK SM G 108 [(0, .ref (ad G 0)), (1, .int v1), (2, .int v2), (3, .int v3), (4, .int v4), (5, .int a5)] [] t) : JJ SM G Acc (f_Mo_give_L35 v1 v2 v3 v4 v5 s) 35 [(0, .ref (ad G 0)), (1, .int v1), (2, .int v2), (3, .int v3), (4, .int v4), (5, .int v5)] [] s := by
  unfold f_Mo_give_L35
  refine jr_iload C 5 rfl dX12_give_35 ?_
  refine jr_sipush C sp_4096 dX12_give_37 ?_
  refine jr_icmp_ge C (tgt := 108) dX12_give_40 (by decide) (fun h11 => ?_) (fun h11 => ?_)
  · refine jo_pos h11 ?_
    exact jr_end (fun h => hx1 v5 s h)
  refine jo_neg h11 ?_
  refine jr_iload C 5 rfl dX12_give_43 ?_
  refine jr_iload_n C 2 rfl rfl dX12_give_45 ?_
  refine jr_icmp_ge C (tgt := 69) dX12_give_46 (by decide) (fun h12 => ?_) (fun h12 => ?_)
  · refine jo_pos h12 ?_
    refine jr_aload_n C 0 rfl rfl dX12_give_69 ?_
    refine jr_getR C FX_10 36 oS_0.1 oS_0.2 ff_10_36.1 ff_10_36.2 rfl fl_X12_73 dX12_give_70 ?_
    refine jr_sipush C sp_4096 dX12_give_73 ?_
    refine jr_aload_n C 0 rfl rfl dX12_give_76 ?_
    refine jr_getI C FX_10 28 oS_0.1 oS_0.2 ff_10_28.1 ff_10_28.2 fl_X12_394 dX12_give_77 ?_
    refine jr_imul C dX12_give_80 ?_
    refine jr_iload C 5 rfl dX12_give_81 ?_
    refine jr_iadd C dX12_give_83 ?_
    refine jr_zald C oS_19.1 oS_19.2.1 oS_19.2.2 dX12_give_84 ?_
    refine jr_if_ne C (tgt := 102) dX12_give_85 (by decide) (fun h13 => ?_) (fun h13 => ?_)
    · refine jo_neg h13 ?_
      exact t_Mo_give_J102_1 G hR hL C  v1 v2 v3 v4 v5 s hb1 hx1
    refine jo_pos h13 ?_
    refine jr_aload_n C 0 rfl rfl dX12_give_88 ?_
    refine jr_iload C 5 rfl dX12_give_89 ?_
    refine jr_sipush C sp_512 dX12_give_91 ?_
    refine jr_aload_n C 0 rfl rfl dX12_give_94 ?_
    refine jr_getI C FX_10 69 oS_0.1 oS_0.2 ff_10_69.1 ff_10_69.2 fl_X12_420 dX12_give_95 ?_
    refine jr_iadd C dX12_give_98 ?_
    refine jr_bind (fun q14 e15 => ?_)
    refine jr_callVV C FX_10 km_X12_426 oS_0.1 oS_0.2 (rk hR rfl) (c_Mo_unset (gl G) v5 (512 + (s.1 0 69)) s e15) rfl rfl rfl (Nat.le_of_ble_eq_true rfl) dX12_give_99 ?_
    exact t_Mo_give_J102_1 G hR hL C  v1 v2 v3 v4 v5 q14 hb1 hx1
  refine jo_neg h12 ?_
  refine jr_aload_n C 0 rfl rfl dX12_give_49 ?_
  refine jr_getR C FX_10 36 oS_0.1 oS_0.2 ff_10_36.1 ff_10_36.2 rfl fl_X12_73 dX12_give_50 ?_
  refine jr_sipush C sp_4096 dX12_give_53 ?_
  refine jr_aload_n C 0 rfl rfl dX12_give_56 ?_
  refine jr_getI C FX_10 28 oS_0.1 oS_0.2 ff_10_28.1 ff_10_28.2 fl_X12_394 dX12_give_57 ?_
  refine jr_imul C dX12_give_60 ?_
  refine jr_iload C 5 rfl dX12_give_61 ?_
  refine jr_iadd C dX12_give_63 ?_
  refine jr_iconst C ic_0 dX12_give_64 ?_
  refine jr_zast C oS_19.1 oS_19.2.1 oS_19.2.2 dX12_give_65 (jr_ltS fun s16 => ?_)
  refine jr_goto C (tgt := 102) dX12_give_66 (by decide) ?_
  exact t_Mo_give_J102_1 G hR hL C  v1 v2 v3 v4 v5 s16 hb1 hx1
noncomputable def f_Mo_give (v1 : Int32) (v2 : Int32) (v3 : Int32) (v4 : Int32) (s : St) : Option St :=
  if v1 = 7 then
  (if v3 = 0 then
  (if v2 < 3072 then
  f_Mo_give_J24 s
  else
  if v2 ≤ 4096 then
  ((wh (fun a : (Int32 × St) => f_Mo_give_L35 v1 v2 v3 v4 a.1 a.2) (3072, s)).bind (fun b17 =>
  f_Mo_give_J108 v1 v2 v3 v4 (b17.2)))
  else
  f_Mo_give_J24 s)
  else
  f_Mo_give_J24 s)
  else
  f_Mo_give_J108 v1 v2 v3 v4 s
set_option maxHeartbeats 4000000 in
set_option maxRecDepth 100000 in
theorem t_Mo_give (G : GG) (hR : gR G = rmx 2 43) (hL : gL G = 6) (C : Cx SM G cX12_give RX12) {Acc : St → Prop}  (v1 : Int32) (v2 : Int32) (v3 : Int32) (v4 : Int32) (s : St) (hr : ∀ v : St, Acc v → RtV SM G cX12_give v) : JJ SM G Acc (f_Mo_give v1 v2 v3 v4 s) 0 [(0, .ref (ad G 0)), (1, .int v1), (2, .int v2), (3, .int v3), (4, .int v4)] [] s := by
  unfold f_Mo_give
  refine jr_iload_n C 1 rfl rfl dX12_give_0 ?_
  refine jr_bipush C bp_7 dX12_give_1 ?_
  refine jr_icmp_ne C (tgt := 108) dX12_give_3 (by decide) (fun h1 => ?_) (fun h1 => ?_)
  · refine jo_neg h1 ?_
    exact t_Mo_give_J108 G hR hL C  v1 v2 v3 v4 s hr
  refine jo_pos h1 ?_
  refine jr_iload_n C 3 rfl rfl dX12_give_6 ?_
  refine jr_if_ne C (tgt := 24) dX12_give_7 (by decide) (fun h6 => ?_) (fun h6 => ?_)
  · refine jo_neg h6 ?_
    refine jr_lv [0] rfl ?_
    exact t_Mo_give_J24 G hR hL C   s hr
  refine jo_pos h6 ?_
  refine jr_iload_n C 2 rfl rfl dX12_give_10 ?_
  refine jr_sipush C sp_3072 dX12_give_11 ?_
  refine jr_icmp_lt C (tgt := 24) dX12_give_14 (by decide) (fun h9 => ?_) (fun h9 => ?_)
  · refine jo_pos h9 ?_
    refine jr_lv [0] rfl ?_
    exact t_Mo_give_J24 G hR hL C   s hr
  refine jo_neg h9 ?_
  refine jr_iload_n C 2 rfl rfl dX12_give_17 ?_
  refine jr_sipush C sp_4096 dX12_give_18 ?_
  refine jr_icmp_le C (tgt := 30) dX12_give_21 (by decide) (fun h10 => ?_) (fun h10 => ?_)
  · refine jo_pos h10 ?_
    refine jr_sipush C sp_3072 dX12_give_30 ?_
    refine jr_istore C (lv' := [(5, .int 3072), (0, .ref (ad G 0)), (1, .int v1), (2, .int v2), (3, .int v3), (4, .int v4)]) (ltL hL rfl) rfl dX12_give_33 ?_
    refine jr_lv [1, 2, 3, 4, 5, 0] rfl ?_
    refine jr_loopB (pc := 35) (pcx := 108) (f := fun a : (Int32 × St) => f_Mo_give_L35 v1 v2 v3 v4 a.1 a.2) (fun a : (Int32 × St) => [(0, .ref (ad G 0)), (1, .int v1), (2, .int v2), (3, .int v3), (4, .int v4), (5, .int (a.1))]) (fun a : (Int32 × St) => a.2) (3072, s) (fun a => t_Mo_give_L35 G hR hL C  v1 v2 v3 v4 a.1 a.2 (fun _ _ h => h) (fun _ _ h => h)) (fun b17 => ?_)
    refine jr_lv [0, 1, 2, 3, 4] rfl ?_
    exact t_Mo_give_J108 G hR hL C  v1 v2 v3 v4 (b17.2) hr
  refine jo_neg h10 ?_
  refine jr_lv [0] rfl ?_
  exact t_Mo_give_J24 G hR hL C   s hr
set_option maxRecDepth 100000 in
theorem c_Mo_give (l : Launch)  (v1 : Int32) (v2 : Int32) (v3 : Int32) (v4 : Int32) (s : St) {q : St} (h : f_Mo_give v1 v2 v3 v4 s = some q) : CT SM l yX12_give cX12_give 6 none 2 43 (fun a => [.ref (a 0), .int v1, .int v2, .int v3, .int v4]) s q (fun _ => none) :=
  ct_V okX_M (by decide) (fun _ => Nat.le_of_ble_eq_true rfl) (fun G hl hR hL C hr => t_Mo_give G hR hL C (Acc := fun v => v = q)  v1 v2 v3 v4 s (fun v hv => by rw [hv]; exact hr) ⟨_, h, rfl⟩)
noncomputable def f_Mo_left (v0 : Int32) : Int32 :=
  (v0 ||| (-v0))
set_option maxHeartbeats 4000000 in
set_option maxRecDepth 100000 in
theorem t_Mo_left (G : GG) (hR : gR G = rmx 0 0) (hL : gL G = 1) (C : Cx SM G cX12_left RX12) {Acc : Int32 → Prop}  (v0 : Int32) (s : St) (hr : ∀ v : Int32, Acc v → RtI SM G cX12_left v s) : JJ SM G Acc (some (f_Mo_left v0)) 0 [(0, .int v0)] [] s := by
  unfold f_Mo_left
  refine jr_iload_n C 0 rfl rfl dX12_left_0 ?_
  refine jr_iload_n C 0 rfl rfl dX12_left_1 ?_
  refine jr_ineg C dX12_left_2 ?_
  refine jr_ior C dX12_left_3 ?_
  exact jr_end (fun h => hr (v0 ||| (-v0)) h _ _ dX12_left_4)
set_option maxRecDepth 100000 in
theorem c_Mo_left (l : Launch)  (v0 : Int32) (s : St) : CT SM l yX12_left cX12_left 1 (some .int) 0 0 (fun a => [.int v0]) s s (fun _ => some (.int (f_Mo_left v0))) :=
  ct_I okX_M (by decide) (fun _ => Nat.le_of_ble_eq_true rfl) (fun G hl hR hL C hr => t_Mo_left G hR hL C (Acc := fun v => v = (f_Mo_left v0))  v0 s (fun v hv => by rw [hv]; exact hr) ⟨_, rfl, rfl⟩)
noncomputable def f_Mo_any (v0 : Int32) : Int32 :=
  if v0 = 0 then
  0
  else
  (-1)
set_option maxHeartbeats 4000000 in
set_option maxRecDepth 100000 in
theorem t_Mo_any (G : GG) (hR : gR G = rmx 0 0) (hL : gL G = 1) (C : Cx SM G cX12_any RX12) {Acc : Int32 → Prop}  (v0 : Int32) (s : St) (hr : ∀ v : Int32, Acc v → RtI SM G cX12_any v s) : JJ SM G Acc (some (f_Mo_any v0)) 0 [(0, .int v0)] [] s := by
  unfold f_Mo_any
  refine jr_iload_n C 0 rfl rfl dX12_any_0 ?_
  refine jr_if_eq C (tgt := 8) dX12_any_1 (by decide) (fun h1 => ?_) (fun h1 => ?_)
  · refine jo_posP h1 ?_
    refine jr_iconst C ic_0 dX12_any_8 ?_
    exact jr_end (fun h => hr 0 h _ _ dX12_any_9)
  refine jo_negP h1 ?_
  refine jr_iconst C ic_m1 dX12_any_4 ?_
  refine jr_goto C (tgt := 9) dX12_any_5 (by decide) ?_
  exact jr_end (fun h => hr (-1) h _ _ dX12_any_9)
set_option maxRecDepth 100000 in
theorem c_Mo_any (l : Launch)  (v0 : Int32) (s : St) : CT SM l yX12_any cX12_any 1 (some .int) 0 0 (fun a => [.int v0]) s s (fun _ => some (.int (f_Mo_any v0))) :=
  ct_I okX_M (by decide) (fun _ => Nat.le_of_ble_eq_true rfl) (fun G hl hR hL C hr => t_Mo_any G hR hL C (Acc := fun v => v = (f_Mo_any v0))  v0 s (fun v hv => by rw [hv]; exact hr) ⟨_, rfl, rfl⟩)
noncomputable def f_Mo_below (v0 : Int32) (v1 : Int32) : Int32 :=
  if (v1 + (-2147483648)) ≤ (v0 + (-2147483648)) then
  0
  else
  1
set_option maxHeartbeats 4000000 in
set_option maxRecDepth 100000 in
theorem t_Mo_below (G : GG) (hR : gR G = rmx 0 0) (hL : gL G = 2) (C : Cx SM G cX12_below RX12) {Acc : Int32 → Prop}  (v0 : Int32) (v1 : Int32) (s : St) (hr : ∀ v : Int32, Acc v → RtZ SM G cX12_below v s) : JJ SM G Acc (some (f_Mo_below v0 v1)) 0 [(0, .int v0), (1, .int v1)] [] s := by
  unfold f_Mo_below
  refine jr_iload_n C 0 rfl rfl dX12_below_0 ?_
  refine jr_ldcw C kc_X12_429 dX12_below_1 ?_
  refine jr_iadd C dX12_below_4 ?_
  refine jr_iload_n C 1 rfl rfl dX12_below_5 ?_
  refine jr_ldcw C kc_X12_429 dX12_below_6 ?_
  refine jr_iadd C dX12_below_9 ?_
  refine jr_icmp_ge C (tgt := 17) dX12_below_10 (by decide) (fun h1 => ?_) (fun h1 => ?_)
  · refine jo_posP h1 ?_
    refine jr_iconst C ic_0 dX12_below_17 ?_
    exact jr_end (fun h => hr 0 h _ _ _ bN0 dX12_below_18)
  refine jo_negP h1 ?_
  refine jr_iconst C ic_1 dX12_below_13 ?_
  refine jr_goto C (tgt := 18) dX12_below_14 (by decide) ?_
  exact jr_end (fun h => hr 1 h _ _ _ bN1 dX12_below_18)
set_option maxRecDepth 100000 in
theorem c_Mo_below (l : Launch)  (v0 : Int32) (v1 : Int32) (s : St) : CT SM l yX12_below cX12_below 2 (some .boolean) 0 0 (fun a => [.int v0, .int v1]) s s (fun _ => some (.int (f_Mo_below v0 v1))) :=
  ct_Z okX_M (by decide) (fun _ => Nat.le_of_ble_eq_true rfl) (fun G hl hR hL C hr => t_Mo_below G hR hL C (Acc := fun v => v = (f_Mo_below v0 v1))  v0 v1 s (fun v hv => by rw [hv]; exact hr) ⟨_, rfl, rfl⟩)
noncomputable def f_Mo_equalShade (v1 : Int32) (v2 : Int32) (v3 : Int32) (v4 : Int32) (s : St) : Option Int32 :=
  if (v2 ||| v4) = 0 then
  some 0
  else
  if (s.1 0 29) = 1 then
  (if ((v1 ^^^ v3) &&& ((v2 ||| v4) ^^^ (-1))) = 0 then
  some 1
  else
  some 0)
  else
  some 1
set_option maxHeartbeats 4000000 in
set_option maxRecDepth 100000 in
theorem t_Mo_equalShade (G : GG) (hR : gR G = rmx 0 0) (hL : gL G = 5) (C : Cx SM G cX12_equalShade RX12) {Acc : Int32 → Prop}  (v1 : Int32) (v2 : Int32) (v3 : Int32) (v4 : Int32) (s : St) (hr : ∀ v : Int32, Acc v → RtI SM G cX12_equalShade v s) : JJ SM G Acc (f_Mo_equalShade v1 v2 v3 v4 s) 0 [(0, .ref (ad G 0)), (1, .int v1), (2, .int v2), (3, .int v3), (4, .int v4)] [] s := by
  unfold f_Mo_equalShade
  refine jr_iload_n C 2 rfl rfl dX12_equalShade_0 ?_
  refine jr_iload C 4 rfl dX12_equalShade_1 ?_
  refine jr_ior C dX12_equalShade_3 ?_
  refine jr_if_eq C (tgt := 28) dX12_equalShade_4 (by decide) (fun h1 => ?_) (fun h1 => ?_)
  · refine jo_pos h1 ?_
    refine jr_iconst C ic_0 dX12_equalShade_28 ?_
    refine jr_goto C (tgt := 33) dX12_equalShade_29 (by decide) ?_
    exact jr_end (fun h => hr 0 h _ _ dX12_equalShade_33)
  refine jo_neg h1 ?_
  refine jr_aload_n C 0 rfl rfl dX12_equalShade_7 ?_
  refine jr_getI C FX_10 29 oS_0.1 oS_0.2 ff_10_29.1 ff_10_29.2 fl_X12_397 dX12_equalShade_8 ?_
  refine jr_iconst C ic_1 dX12_equalShade_11 ?_
  refine jr_icmp_ne C (tgt := 32) dX12_equalShade_12 (by decide) (fun h2 => ?_) (fun h2 => ?_)
  · refine jo_neg h2 ?_
    refine jr_iconst C ic_1 dX12_equalShade_32 ?_
    exact jr_end (fun h => hr 1 h _ _ dX12_equalShade_33)
  refine jo_pos h2 ?_
  refine jr_iload_n C 1 rfl rfl dX12_equalShade_15 ?_
  refine jr_iload_n C 3 rfl rfl dX12_equalShade_16 ?_
  refine jr_ixor C dX12_equalShade_17 ?_
  refine jr_iload_n C 2 rfl rfl dX12_equalShade_18 ?_
  refine jr_iload C 4 rfl dX12_equalShade_19 ?_
  refine jr_ior C dX12_equalShade_21 ?_
  refine jr_iconst C ic_m1 dX12_equalShade_22 ?_
  refine jr_ixor C dX12_equalShade_23 ?_
  refine jr_iand C dX12_equalShade_24 ?_
  refine jr_if_eq C (tgt := 32) dX12_equalShade_25 (by decide) (fun h3 => ?_) (fun h3 => ?_)
  · refine jo_pos h3 ?_
    refine jr_iconst C ic_1 dX12_equalShade_32 ?_
    exact jr_end (fun h => hr 1 h _ _ dX12_equalShade_33)
  refine jo_neg h3 ?_
  refine jr_iconst C ic_0 dX12_equalShade_28 ?_
  refine jr_goto C (tgt := 33) dX12_equalShade_29 (by decide) ?_
  exact jr_end (fun h => hr 0 h _ _ dX12_equalShade_33)
set_option maxRecDepth 100000 in
theorem c_Mo_equalShade (l : Launch)  (v1 : Int32) (v2 : Int32) (v3 : Int32) (v4 : Int32) (s : St) {q : Int32} (h : f_Mo_equalShade v1 v2 v3 v4 s = some q) : CT SM l yX12_equalShade cX12_equalShade 5 (some .int) 0 0 (fun a => [.ref (a 0), .int v1, .int v2, .int v3, .int v4]) s s (fun _ => some (.int q)) :=
  ct_I okX_M (by decide) (fun _ => Nat.le_of_ble_eq_true rfl) (fun G hl hR hL C hr => t_Mo_equalShade G hR hL C (Acc := fun v => v = q)  v1 v2 v3 v4 s (fun v hv => by rw [hv]; exact hr) ⟨_, h, rfl⟩)
noncomputable def f_Mo_lessShade_J48 (v2 : Int32) (v4 : Int32) (v6 : Int32) (w0 : Int32) (s : St) : Option Int32 :=
  if (f_Mo_below (v6 &&& (v2 ^^^ (-1))) (w0 ||| v4)) = 0 then
  some 0
  else
  if (f_Mo_below (v6 ||| v2) (w0 &&& (v4 ^^^ (-1)))) = 0 then
  some 1
  else
  some 0
set_option maxHeartbeats 4000000 in
set_option maxRecDepth 100000 in
theorem t_Mo_lessShade_J48 (G : GG) (hR : gR G = rmx 1 21) (hL : gL G = 8) (C : Cx SM G cX12_lessShade RX12) {Acc : Int32 → Prop}  (v2 : Int32) (v4 : Int32) (v6 : Int32) (w0 : Int32) (s : St) (hr : ∀ v : Int32, Acc v → RtI SM G cX12_lessShade v s) : JJ SM G Acc (f_Mo_lessShade_J48 v2 v4 v6 w0 s) 48 [(2, .int v2), (4, .int v4), (6, .int v6)] [.int w0] s := by
  unfold f_Mo_lessShade_J48
  refine jr_istore C (lv' := [(7, .int w0), (2, .int v2), (4, .int v4), (6, .int v6)]) (ltL hL rfl) rfl dX12_lessShade_48 ?_
  refine jr_iload C 3 rfl dX12_lessShade_50 ?_
  refine jr_iload_n C 1 rfl rfl dX12_lessShade_52 ?_
  refine jr_iconst C ic_m1 dX12_lessShade_53 ?_
  refine jr_ixor C dX12_lessShade_54 ?_
  refine jr_iand C dX12_lessShade_55 ?_
  refine jr_iload C 0 rfl dX12_lessShade_56 ?_
  refine jr_iload C 2 rfl dX12_lessShade_58 ?_
  refine jr_ior C dX12_lessShade_60 ?_
  refine jr_callSI C km_X12_430 (rk hR rfl) (c_Mo_below (gl G) (v6 &&& (v2 ^^^ (-1))) (w0 ||| v4) s) rfl rfl rfl (Nat.le_of_ble_eq_true rfl) dX12_lessShade_61 ?_
  refine jr_if_eq C (tgt := 84) dX12_lessShade_64 (by decide) (fun h5 => ?_) (fun h5 => ?_)
  · refine jo_pos h5 ?_
    refine jr_iconst C ic_0 dX12_lessShade_84 ?_
    refine jr_goto C (tgt := 89) dX12_lessShade_85 (by decide) ?_
    exact jr_end (fun h => hr 0 h _ _ dX12_lessShade_89)
  refine jo_neg h5 ?_
  refine jr_iload C 3 rfl dX12_lessShade_67 ?_
  refine jr_iload_n C 1 rfl rfl dX12_lessShade_69 ?_
  refine jr_ior C dX12_lessShade_70 ?_
  refine jr_iload C 0 rfl dX12_lessShade_71 ?_
  refine jr_iload C 2 rfl dX12_lessShade_73 ?_
  refine jr_iconst C ic_m1 dX12_lessShade_75 ?_
  refine jr_ixor C dX12_lessShade_76 ?_
  refine jr_iand C dX12_lessShade_77 ?_
  refine jr_callSI C km_X12_430 (rk hR rfl) (c_Mo_below (gl G) (v6 ||| v2) (w0 &&& (v4 ^^^ (-1))) s) rfl rfl rfl (Nat.le_of_ble_eq_true rfl) dX12_lessShade_78 ?_
  refine jr_if_eq C (tgt := 88) dX12_lessShade_81 (by decide) (fun h6 => ?_) (fun h6 => ?_)
  · refine jo_pos h6 ?_
    refine jr_iconst C ic_1 dX12_lessShade_88 ?_
    exact jr_end (fun h => hr 1 h _ _ dX12_lessShade_89)
  refine jo_neg h6 ?_
  refine jr_iconst C ic_0 dX12_lessShade_84 ?_
  refine jr_goto C (tgt := 89) dX12_lessShade_85 (by decide) ?_
  exact jr_end (fun h => hr 0 h _ _ dX12_lessShade_89)
noncomputable def f_Mo_lessShade_J32 (v2 : Int32) (v3 : Int32) (v4 : Int32) (v5 : Int32) (w0 : Int32) (s : St) : Option Int32 :=
  if v5 = 0 then
  f_Mo_lessShade_J48 v2 v4 w0 v3 s
  else
  f_Mo_lessShade_J48 v2 v4 w0 (v3 ^^^ (-2147483648)) s
set_option maxHeartbeats 4000000 in
set_option maxRecDepth 100000 in
theorem t_Mo_lessShade_J32 (G : GG) (hR : gR G = rmx 1 21) (hL : gL G = 8) (C : Cx SM G cX12_lessShade RX12) {Acc : Int32 → Prop}  (v2 : Int32) (v3 : Int32) (v4 : Int32) (v5 : Int32) (w0 : Int32) (s : St) (hr : ∀ v : Int32, Acc v → RtI SM G cX12_lessShade v s) : JJ SM G Acc (f_Mo_lessShade_J32 v2 v3 v4 v5 w0 s) 32 [(2, .int v2), (3, .int v3), (4, .int v4), (5, .int v5)] [.int w0] s := by
  unfold f_Mo_lessShade_J32
  refine jr_istore C (lv' := [(6, .int w0), (2, .int v2), (3, .int v3), (4, .int v4), (5, .int v5)]) (ltL hL rfl) rfl dX12_lessShade_32 ?_
  refine jr_iload C 4 rfl dX12_lessShade_34 ?_
  refine jr_if_eq C (tgt := 47) dX12_lessShade_36 (by decide) (fun h4 => ?_) (fun h4 => ?_)
  · refine jo_pos h4 ?_
    refine jr_iload_n C 2 rfl rfl dX12_lessShade_47 ?_
    refine jr_lv [1, 3, 0] rfl ?_
    exact t_Mo_lessShade_J48 G hR hL C  v2 v4 w0 v3 s hr
  refine jo_neg h4 ?_
  refine jr_iload_n C 2 rfl rfl dX12_lessShade_39 ?_
  refine jr_ldcw C kc_X12_429 dX12_lessShade_40 ?_
  refine jr_ixor C dX12_lessShade_43 ?_
  refine jr_goto C (tgt := 48) dX12_lessShade_44 (by decide) ?_
  refine jr_lv [1, 3, 0] rfl ?_
  exact t_Mo_lessShade_J48 G hR hL C  v2 v4 w0 (v3 ^^^ (-2147483648)) s hr
noncomputable def f_Mo_lessShade (v1 : Int32) (v2 : Int32) (v3 : Int32) (v4 : Int32) (v5 : Int32) (s : St) : Option Int32 :=
  if (v2 ||| v4) = 0 then
  some 0
  else
  if (s.1 0 29) = 0 then
  some 1
  else
  if v5 = 0 then
  f_Mo_lessShade_J32 v2 v3 v4 v5 v1 s
  else
  f_Mo_lessShade_J32 v2 v3 v4 v5 (v1 ^^^ (-2147483648)) s
set_option maxHeartbeats 4000000 in
set_option maxRecDepth 100000 in
theorem t_Mo_lessShade (G : GG) (hR : gR G = rmx 1 21) (hL : gL G = 8) (C : Cx SM G cX12_lessShade RX12) {Acc : Int32 → Prop}  (v1 : Int32) (v2 : Int32) (v3 : Int32) (v4 : Int32) (v5 : Int32) (s : St) (hr : ∀ v : Int32, Acc v → RtI SM G cX12_lessShade v s) : JJ SM G Acc (f_Mo_lessShade v1 v2 v3 v4 v5 s) 0 [(0, .ref (ad G 0)), (1, .int v1), (2, .int v2), (3, .int v3), (4, .int v4), (5, .int v5)] [] s := by
  unfold f_Mo_lessShade
  refine jr_iload_n C 2 rfl rfl dX12_lessShade_0 ?_
  refine jr_iload C 4 rfl dX12_lessShade_1 ?_
  refine jr_ior C dX12_lessShade_3 ?_
  refine jr_if_ne C (tgt := 9) dX12_lessShade_4 (by decide) (fun h1 => ?_) (fun h1 => ?_)
  · refine jo_neg h1 ?_
    refine jr_aload_n C 0 rfl rfl dX12_lessShade_9 ?_
    refine jr_getI C FX_10 29 oS_0.1 oS_0.2 ff_10_29.1 ff_10_29.2 fl_X12_397 dX12_lessShade_10 ?_
    refine jr_if_ne C (tgt := 18) dX12_lessShade_13 (by decide) (fun h2 => ?_) (fun h2 => ?_)
    · refine jo_neg h2 ?_
      refine jr_iload C 5 rfl dX12_lessShade_18 ?_
      refine jr_if_eq C (tgt := 31) dX12_lessShade_20 (by decide) (fun h3 => ?_) (fun h3 => ?_)
      · refine jo_pos h3 ?_
        refine jr_iload_n C 1 rfl rfl dX12_lessShade_31 ?_
        refine jr_lv [2, 3, 4, 5] rfl ?_
        exact t_Mo_lessShade_J32 G hR hL C  v2 v3 v4 v5 v1 s hr
      refine jo_neg h3 ?_
      refine jr_iload_n C 1 rfl rfl dX12_lessShade_23 ?_
      refine jr_ldcw C kc_X12_429 dX12_lessShade_24 ?_
      refine jr_ixor C dX12_lessShade_27 ?_
      refine jr_goto C (tgt := 32) dX12_lessShade_28 (by decide) ?_
      refine jr_lv [2, 3, 4, 5] rfl ?_
      exact t_Mo_lessShade_J32 G hR hL C  v2 v3 v4 v5 (v1 ^^^ (-2147483648)) s hr
    refine jo_pos h2 ?_
    refine jr_iconst C ic_1 dX12_lessShade_16 ?_
    exact jr_end (fun h => hr 1 h _ _ dX12_lessShade_17)
  refine jo_pos h1 ?_
  refine jr_iconst C ic_0 dX12_lessShade_7 ?_
  exact jr_end (fun h => hr 0 h _ _ dX12_lessShade_8)
set_option maxRecDepth 100000 in
theorem c_Mo_lessShade (l : Launch)  (v1 : Int32) (v2 : Int32) (v3 : Int32) (v4 : Int32) (v5 : Int32) (s : St) {q : Int32} (h : f_Mo_lessShade v1 v2 v3 v4 v5 s = some q) : CT SM l yX12_lessShade cX12_lessShade 8 (some .int) 1 21 (fun a => [.ref (a 0), .int v1, .int v2, .int v3, .int v4, .int v5]) s s (fun _ => some (.int q)) :=
  ct_I okX_M (by decide) (fun _ => Nat.le_of_ble_eq_true rfl) (fun G hl hR hL C hr => t_Mo_lessShade G hR hL C (Acc := fun v => v = q)  v1 v2 v3 v4 v5 s (fun v hv => by rw [hv]; exact hr) ⟨_, h, rfl⟩)
noncomputable def f_Mo_shifted (v0 : Int32) (v1 : Int32) (v2 : Int32) : Int32 :=
  if v0 = 12 then
  (v1 <<< (v2 &&& 31))
  else
  if v0 = 13 then
  (((v1).toUInt32 >>> ((v2 : Int32).toUInt32 &&& Int32.toUInt32 31)).toInt32)
  else
  (v1 >>> (v2 &&& 31))
set_option maxHeartbeats 4000000 in
set_option maxRecDepth 100000 in
theorem t_Mo_shifted (G : GG) (hR : gR G = rmx 0 0) (hL : gL G = 3) (C : Cx SM G cX12_shifted RX12) {Acc : Int32 → Prop}  (v0 : Int32) (v1 : Int32) (v2 : Int32) (s : St) (hr : ∀ v : Int32, Acc v → RtI SM G cX12_shifted v s) : JJ SM G Acc (some (f_Mo_shifted v0 v1 v2)) 0 [(0, .int v0), (1, .int v1), (2, .int v2)] [] s := by
  unfold f_Mo_shifted
  refine jr_iload_n C 0 rfl rfl dX12_shifted_0 ?_
  refine jr_bipush C bp_12 dX12_shifted_1 ?_
  refine jr_icmp_ne C (tgt := 12) dX12_shifted_3 (by decide) (fun h1 => ?_) (fun h1 => ?_)
  · refine jo_negP h1 ?_
    refine jr_iload_n C 0 rfl rfl dX12_shifted_12 ?_
    refine jr_bipush C bp_13 dX12_shifted_13 ?_
    refine jr_icmp_ne C (tgt := 24) dX12_shifted_15 (by decide) (fun h2 => ?_) (fun h2 => ?_)
    · refine jo_negP h2 ?_
      refine jr_iload_n C 1 rfl rfl dX12_shifted_24 ?_
      refine jr_iload_n C 2 rfl rfl dX12_shifted_25 ?_
      refine jr_ishr C dX12_shifted_26 ?_
      exact jr_end (fun h => hr (v1 >>> (v2 &&& 31)) h _ _ dX12_shifted_27)
    refine jo_posP h2 ?_
    refine jr_iload_n C 1 rfl rfl dX12_shifted_18 ?_
    refine jr_iload_n C 2 rfl rfl dX12_shifted_19 ?_
    refine jr_iushr C dX12_shifted_20 ?_
    refine jr_goto C (tgt := 27) dX12_shifted_21 (by decide) ?_
    exact jr_end (fun h => hr (((v1).toUInt32 >>> ((v2 : Int32).toUInt32 &&& Int32.toUInt32 31)).toInt32) h _ _ dX12_shifted_27)
  refine jo_posP h1 ?_
  refine jr_iload_n C 1 rfl rfl dX12_shifted_6 ?_
  refine jr_iload_n C 2 rfl rfl dX12_shifted_7 ?_
  refine jr_ishl C dX12_shifted_8 ?_
  refine jr_goto C (tgt := 27) dX12_shifted_9 (by decide) ?_
  exact jr_end (fun h => hr (v1 <<< (v2 &&& 31)) h _ _ dX12_shifted_27)
set_option maxRecDepth 100000 in
theorem c_Mo_shifted (l : Launch)  (v0 : Int32) (v1 : Int32) (v2 : Int32) (s : St) : CT SM l yX12_shifted cX12_shifted 3 (some .int) 0 0 (fun a => [.int v0, .int v1, .int v2]) s s (fun _ => some (.int (f_Mo_shifted v0 v1 v2))) :=
  ct_I okX_M (by decide) (fun _ => Nat.le_of_ble_eq_true rfl) (fun G hl hR hL C hr => t_Mo_shifted G hR hL C (Acc := fun v => v = (f_Mo_shifted v0 v1 v2))  v0 v1 v2 s (fun v hv => by rw [hv]; exact hr) ⟨_, rfl, rfl⟩)
noncomputable def f_Mo_made_J123 (v1 : Int32) (v2 : Int32) (v3 : Int32) (s : St) : Option Int32 :=
  some (f_Mo_shifted v1 v2 (v3 &&& 31))
set_option maxHeartbeats 4000000 in
set_option maxRecDepth 100000 in
theorem t_Mo_made_J123 (G : GG) (hR : gR G = rmx 1 22) (hL : gL G = 4) (C : Cx SM G cX12_made RX12) {Acc : Int32 → Prop}  (v1 : Int32) (v2 : Int32) (v3 : Int32) (s : St) (hr : ∀ v : Int32, Acc v → RtI SM G cX12_made v s) : JJ SM G Acc (f_Mo_made_J123 v1 v2 v3 s) 123 [(1, .int v1), (2, .int v2), (3, .int v3)] [] s := by
  unfold f_Mo_made_J123
  refine jr_iload_n C 0 rfl rfl dX12_made_123 ?_
  refine jr_iload_n C 1 rfl rfl dX12_made_124 ?_
  refine jr_iload_n C 2 rfl rfl dX12_made_125 ?_
  refine jr_bipush C bp_31 dX12_made_126 ?_
  refine jr_iand C dX12_made_128 ?_
  refine jr_callSI C km_X12_433 (rk hR rfl) (c_Mo_shifted (gl G) v1 v2 (v3 &&& 31) s) rfl rfl rfl (Nat.le_of_ble_eq_true rfl) dX12_made_129 ?_
  exact jr_end (fun h => hr (f_Mo_shifted v1 v2 (v3 &&& 31)) h _ _ dX12_made_132)
noncomputable def f_Mo_made (v1 : Int32) (v2 : Int32) (v3 : Int32) (s : St) : Option Int32 :=
  if v1 = 4 then
  some (v2 + v3)
  else if v1 = 5 then
  some (v2 - v3)
  else if v1 = 6 then
  some (v2 * v3)
  else if v1 = 7 then
  (if v3 = (-1) then
  some (-v2)
  else
  if v3 = 0 then none else
  some (v2 / v3))
  else if v1 = 8 then
  (if v3 = (-1) then
  some 0
  else
  if v3 = 0 then none else
  some (v2 - v2 / v3 * v3))
  else if v1 = 9 then
  some (v2 &&& v3)
  else if v1 = 10 then
  some (v2 ||| v3)
  else if v1 = 11 then
  some (v2 ^^^ v3)
  else if v1 = 12 then
  f_Mo_made_J123 v1 v2 v3 s
  else if v1 = 13 then
  f_Mo_made_J123 v1 v2 v3 s
  else if v1 = 14 then
  f_Mo_made_J123 v1 v2 v3 s
  else if v1 = 15 then
  (if v2 = v3 then
  some 1
  else
  some 0)
  else if v1 = 16 then
  (if v2 = v3 then
  some 0
  else
  some 1)
  else if v1 = 17 then
  (if v3 ≤ v2 then
  some 0
  else
  some 1)
  else if (f_Mo_below v2 v3) = 0 then
  some 0
  else
  some 1
set_option maxHeartbeats 4000000 in
set_option maxRecDepth 100000 in
theorem t_Mo_made (G : GG) (hR : gR G = rmx 1 22) (hL : gL G = 4) (C : Cx SM G cX12_made RX12) {Acc : Int32 → Prop}  (v1 : Int32) (v2 : Int32) (v3 : Int32) (s : St) (hr : ∀ v : Int32, Acc v → RtI SM G cX12_made v s) : JJ SM G Acc (f_Mo_made v1 v2 v3 s) 0 [(0, .ref (ad G 0)), (1, .int v1), (2, .int v2), (3, .int v3)] [] s := by
  unfold f_Mo_made
  refine jr_iload_n C 1 rfl rfl dX12_made_0 ?_
  refine jo_cases (fun h1 => ?_) (fun h1 => ?_)
  · refine jr_tabIn C dX12_made_1 h1 (by decide) (by decide) rfl (tgt := 72) (by decide) ?_
    refine jr_iload_n C 2 rfl rfl dX12_made_72 ?_
    refine jr_iload_n C 3 rfl rfl dX12_made_73 ?_
    refine jr_iadd C dX12_made_74 ?_
    exact jr_end (fun h => hr (v2 + v3) h _ _ dX12_made_75)
  refine jo_cases (fun h2 => ?_) (fun h2 => ?_)
  · refine jr_tabIn C dX12_made_1 h2 (by decide) (by decide) rfl (tgt := 76) (by decide) ?_
    refine jr_iload_n C 2 rfl rfl dX12_made_76 ?_
    refine jr_iload_n C 3 rfl rfl dX12_made_77 ?_
    refine jr_isub C dX12_made_78 ?_
    exact jr_end (fun h => hr (v2 - v3) h _ _ dX12_made_79)
  refine jo_cases (fun h3 => ?_) (fun h3 => ?_)
  · refine jr_tabIn C dX12_made_1 h3 (by decide) (by decide) rfl (tgt := 80) (by decide) ?_
    refine jr_iload_n C 2 rfl rfl dX12_made_80 ?_
    refine jr_iload_n C 3 rfl rfl dX12_made_81 ?_
    refine jr_imul C dX12_made_82 ?_
    exact jr_end (fun h => hr (v2 * v3) h _ _ dX12_made_83)
  refine jo_cases (fun h4 => ?_) (fun h4 => ?_)
  · refine jr_tabIn C dX12_made_1 h4 (by decide) (by decide) rfl (tgt := 84) (by decide) ?_
    refine jr_iload_n C 3 rfl rfl dX12_made_84 ?_
    refine jr_iconst C ic_m1 dX12_made_85 ?_
    refine jr_icmp_ne C (tgt := 94) dX12_made_86 (by decide) (fun h5 => ?_) (fun h5 => ?_)
    · refine jo_neg h5 ?_
      refine jr_iload_n C 2 rfl rfl dX12_made_94 ?_
      refine jr_iload_n C 3 rfl rfl dX12_made_95 ?_
      refine jo_ifn (fun h6 => ?_)
      refine jr_idiv C h6 dX12_made_96 ?_
      exact jr_end (fun h => hr (v2 / v3) h _ _ dX12_made_97)
    refine jo_pos h5 ?_
    refine jr_iload_n C 2 rfl rfl dX12_made_89 ?_
    refine jr_ineg C dX12_made_90 ?_
    refine jr_goto C (tgt := 97) dX12_made_91 (by decide) ?_
    exact jr_end (fun h => hr (-v2) h _ _ dX12_made_97)
  refine jo_cases (fun h7 => ?_) (fun h7 => ?_)
  · refine jr_tabIn C dX12_made_1 h7 (by decide) (by decide) rfl (tgt := 98) (by decide) ?_
    refine jr_iload_n C 3 rfl rfl dX12_made_98 ?_
    refine jr_iconst C ic_m1 dX12_made_99 ?_
    refine jr_icmp_ne C (tgt := 107) dX12_made_100 (by decide) (fun h8 => ?_) (fun h8 => ?_)
    · refine jo_neg h8 ?_
      refine jr_iload_n C 2 rfl rfl dX12_made_107 ?_
      refine jr_iload_n C 3 rfl rfl dX12_made_108 ?_
      refine jo_ifn (fun h9 => ?_)
      refine jr_irem C h9 dX12_made_109 ?_
      exact jr_end (fun h => hr (v2 - v2 / v3 * v3) h _ _ dX12_made_110)
    refine jo_pos h8 ?_
    refine jr_iconst C ic_0 dX12_made_103 ?_
    refine jr_goto C (tgt := 110) dX12_made_104 (by decide) ?_
    exact jr_end (fun h => hr 0 h _ _ dX12_made_110)
  refine jo_cases (fun h10 => ?_) (fun h10 => ?_)
  · refine jr_tabIn C dX12_made_1 h10 (by decide) (by decide) rfl (tgt := 111) (by decide) ?_
    refine jr_iload_n C 2 rfl rfl dX12_made_111 ?_
    refine jr_iload_n C 3 rfl rfl dX12_made_112 ?_
    refine jr_iand C dX12_made_113 ?_
    exact jr_end (fun h => hr (v2 &&& v3) h _ _ dX12_made_114)
  refine jo_cases (fun h11 => ?_) (fun h11 => ?_)
  · refine jr_tabIn C dX12_made_1 h11 (by decide) (by decide) rfl (tgt := 115) (by decide) ?_
    refine jr_iload_n C 2 rfl rfl dX12_made_115 ?_
    refine jr_iload_n C 3 rfl rfl dX12_made_116 ?_
    refine jr_ior C dX12_made_117 ?_
    exact jr_end (fun h => hr (v2 ||| v3) h _ _ dX12_made_118)
  refine jo_cases (fun h12 => ?_) (fun h12 => ?_)
  · refine jr_tabIn C dX12_made_1 h12 (by decide) (by decide) rfl (tgt := 119) (by decide) ?_
    refine jr_iload_n C 2 rfl rfl dX12_made_119 ?_
    refine jr_iload_n C 3 rfl rfl dX12_made_120 ?_
    refine jr_ixor C dX12_made_121 ?_
    exact jr_end (fun h => hr (v2 ^^^ v3) h _ _ dX12_made_122)
  refine jo_cases (fun h13 => ?_) (fun h13 => ?_)
  · refine jr_tabIn C dX12_made_1 h13 (by decide) (by decide) rfl (tgt := 123) (by decide) ?_
    refine jr_lv [1, 2, 3] rfl ?_
    exact t_Mo_made_J123 G hR hL C  v1 v2 v3 s hr
  refine jo_cases (fun h14 => ?_) (fun h14 => ?_)
  · refine jr_tabIn C dX12_made_1 h14 (by decide) (by decide) rfl (tgt := 123) (by decide) ?_
    refine jr_lv [1, 2, 3] rfl ?_
    exact t_Mo_made_J123 G hR hL C  v1 v2 v3 s hr
  refine jo_cases (fun h15 => ?_) (fun h15 => ?_)
  · refine jr_tabIn C dX12_made_1 h15 (by decide) (by decide) rfl (tgt := 123) (by decide) ?_
    refine jr_lv [1, 2, 3] rfl ?_
    exact t_Mo_made_J123 G hR hL C  v1 v2 v3 s hr
  refine jo_cases (fun h16 => ?_) (fun h16 => ?_)
  · refine jr_tabIn C dX12_made_1 h16 (by decide) (by decide) rfl (tgt := 133) (by decide) ?_
    refine jr_iload_n C 2 rfl rfl dX12_made_133 ?_
    refine jr_iload_n C 3 rfl rfl dX12_made_134 ?_
    refine jr_icmp_ne C (tgt := 142) dX12_made_135 (by decide) (fun h17 => ?_) (fun h17 => ?_)
    · refine jo_neg h17 ?_
      refine jr_iconst C ic_0 dX12_made_142 ?_
      exact jr_end (fun h => hr 0 h _ _ dX12_made_143)
    refine jo_pos h17 ?_
    refine jr_iconst C ic_1 dX12_made_138 ?_
    refine jr_goto C (tgt := 143) dX12_made_139 (by decide) ?_
    exact jr_end (fun h => hr 1 h _ _ dX12_made_143)
  refine jo_cases (fun h18 => ?_) (fun h18 => ?_)
  · refine jr_tabIn C dX12_made_1 h18 (by decide) (by decide) rfl (tgt := 144) (by decide) ?_
    refine jr_iload_n C 2 rfl rfl dX12_made_144 ?_
    refine jr_iload_n C 3 rfl rfl dX12_made_145 ?_
    refine jr_icmp_eq C (tgt := 153) dX12_made_146 (by decide) (fun h19 => ?_) (fun h19 => ?_)
    · refine jo_pos h19 ?_
      refine jr_iconst C ic_0 dX12_made_153 ?_
      exact jr_end (fun h => hr 0 h _ _ dX12_made_154)
    refine jo_neg h19 ?_
    refine jr_iconst C ic_1 dX12_made_149 ?_
    refine jr_goto C (tgt := 154) dX12_made_150 (by decide) ?_
    exact jr_end (fun h => hr 1 h _ _ dX12_made_154)
  refine jo_cases (fun h20 => ?_) (fun h20 => ?_)
  · refine jr_tabIn C dX12_made_1 h20 (by decide) (by decide) rfl (tgt := 155) (by decide) ?_
    refine jr_iload_n C 2 rfl rfl dX12_made_155 ?_
    refine jr_iload_n C 3 rfl rfl dX12_made_156 ?_
    refine jr_icmp_ge C (tgt := 164) dX12_made_157 (by decide) (fun h21 => ?_) (fun h21 => ?_)
    · refine jo_pos h21 ?_
      refine jr_iconst C ic_0 dX12_made_164 ?_
      exact jr_end (fun h => hr 0 h _ _ dX12_made_165)
    refine jo_neg h21 ?_
    refine jr_iconst C ic_1 dX12_made_160 ?_
    refine jr_goto C (tgt := 165) dX12_made_161 (by decide) ?_
    exact jr_end (fun h => hr 1 h _ _ dX12_made_165)
  refine jr_tabOut C dX12_made_1 (by have e0 := lv_neT h1 (a := 4) (by decide); have e1 := lv_neT h2 (a := 5) (by decide); have e2 := lv_neT h3 (a := 6) (by decide); have e3 := lv_neT h4 (a := 7) (by decide); have e4 := lv_neT h7 (a := 8) (by decide); have e5 := lv_neT h10 (a := 9) (by decide); have e6 := lv_neT h11 (a := 10) (by decide); have e7 := lv_neT h12 (a := 11) (by decide); have e8 := lv_neT h13 (a := 12) (by decide); have e9 := lv_neT h14 (a := 13) (by decide); have e10 := lv_neT h15 (a := 14) (by decide); have e11 := lv_neT h16 (a := 15) (by decide); have e12 := lv_neT h18 (a := 16) (by decide); have e13 := lv_neT h20 (a := 17) (by decide); omega) (tgt := 166) (by decide) ?_
  refine jr_iload_n C 2 rfl rfl dX12_made_166 ?_
  refine jr_iload_n C 3 rfl rfl dX12_made_167 ?_
  refine jr_callSI C km_X12_430 (rk hR rfl) (c_Mo_below (gl G) v2 v3 s) rfl rfl rfl (Nat.le_of_ble_eq_true rfl) dX12_made_168 ?_
  refine jr_if_eq C (tgt := 178) dX12_made_171 (by decide) (fun h22 => ?_) (fun h22 => ?_)
  · refine jo_pos h22 ?_
    refine jr_iconst C ic_0 dX12_made_178 ?_
    exact jr_end (fun h => hr 0 h _ _ dX12_made_179)
  refine jo_neg h22 ?_
  refine jr_iconst C ic_1 dX12_made_174 ?_
  refine jr_goto C (tgt := 179) dX12_made_175 (by decide) ?_
  exact jr_end (fun h => hr 1 h _ _ dX12_made_179)
set_option maxRecDepth 100000 in
theorem c_Mo_made (l : Launch)  (v1 : Int32) (v2 : Int32) (v3 : Int32) (s : St) {q : Int32} (h : f_Mo_made v1 v2 v3 s = some q) : CT SM l yX12_made cX12_made 4 (some .int) 1 22 (fun a => [.ref (a 0), .int v1, .int v2, .int v3]) s s (fun _ => some (.int q)) :=
  ct_I okX_M (by decide) (fun _ => Nat.le_of_ble_eq_true rfl) (fun G hl hR hL C hr => t_Mo_made G hR hL C (Acc := fun v => v = q)  v1 v2 v3 s (fun v hv => by rw [hv]; exact hr) ⟨_, h, rfl⟩)
noncomputable def f_Mo_shadeOf_J194 (v3 : Int32) (v5 : Int32) (s : St) : Option Int32 :=
  some (f_Mo_left (v3 ||| v5))
set_option maxHeartbeats 4000000 in
set_option maxRecDepth 100000 in
theorem t_Mo_shadeOf_J194 (G : GG) (hR : gR G = rmx 2 48) (hL : gL G = 8) (C : Cx SM G cX12_shadeOf RX12) {Acc : Int32 → Prop}  (v3 : Int32) (v5 : Int32) (s : St) (hr : ∀ v : Int32, Acc v → RtI SM G cX12_shadeOf v s) : JJ SM G Acc (f_Mo_shadeOf_J194 v3 v5 s) 194 [(3, .int v3), (5, .int v5)] [] s := by
  unfold f_Mo_shadeOf_J194
  refine jr_iload_n C 0 rfl rfl dX12_shadeOf_194 ?_
  refine jr_iload C 1 rfl dX12_shadeOf_195 ?_
  refine jr_ior C dX12_shadeOf_197 ?_
  refine jr_callSI C km_X12_437 (rk hR rfl) (c_Mo_left (gl G) (v3 ||| v5) s) rfl rfl rfl (Nat.le_of_ble_eq_true rfl) dX12_shadeOf_198 ?_
  exact jr_end (fun h => hr (f_Mo_left (v3 ||| v5)) h _ _ dX12_shadeOf_201)
noncomputable def f_Mo_shadeOf_J180 (v3 : Int32) (v4 : Int32) (v5 : Int32) (s : St) : Option Int32 :=
  if v5 = 0 then
  (if v4 = 0 then
  some 0
  else
  f_Mo_shadeOf_J194 v3 v5 s)
  else
  f_Mo_shadeOf_J194 v3 v5 s
set_option maxHeartbeats 4000000 in
set_option maxRecDepth 100000 in
theorem t_Mo_shadeOf_J180 (G : GG) (hR : gR G = rmx 2 48) (hL : gL G = 8) (C : Cx SM G cX12_shadeOf RX12) {Acc : Int32 → Prop}  (v3 : Int32) (v4 : Int32) (v5 : Int32) (s : St) (hr : ∀ v : Int32, Acc v → RtI SM G cX12_shadeOf v s) : JJ SM G Acc (f_Mo_shadeOf_J180 v3 v4 v5 s) 180 [(3, .int v3), (4, .int v4), (5, .int v5)] [] s := by
  unfold f_Mo_shadeOf_J180
  refine jr_iload C 2 rfl dX12_shadeOf_180 ?_
  refine jr_if_ne C (tgt := 194) dX12_shadeOf_182 (by decide) (fun h10 => ?_) (fun h10 => ?_)
  · refine jo_neg h10 ?_
    refine jr_lv [0, 2] rfl ?_
    exact t_Mo_shadeOf_J194 G hR hL C  v3 v5 s hr
  refine jo_pos h10 ?_
  refine jr_iload C 1 rfl dX12_shadeOf_185 ?_
  refine jr_if_ne C (tgt := 194) dX12_shadeOf_187 (by decide) (fun h11 => ?_) (fun h11 => ?_)
  · refine jo_neg h11 ?_
    refine jr_lv [0, 2] rfl ?_
    exact t_Mo_shadeOf_J194 G hR hL C  v3 v5 s hr
  refine jo_pos h11 ?_
  refine jr_iconst C ic_0 dX12_shadeOf_190 ?_
  refine jr_goto C (tgt := 201) dX12_shadeOf_191 (by decide) ?_
  exact jr_end (fun h => hr 0 h _ _ dX12_shadeOf_201)
noncomputable def f_Mo_shadeOf_J202 (v3 : Int32) (v5 : Int32) (s : St) : Option Int32 :=
  some (f_Mo_any (v3 ||| v5))
set_option maxHeartbeats 4000000 in
set_option maxRecDepth 100000 in
theorem t_Mo_shadeOf_J202 (G : GG) (hR : gR G = rmx 2 48) (hL : gL G = 8) (C : Cx SM G cX12_shadeOf RX12) {Acc : Int32 → Prop}  (v3 : Int32) (v5 : Int32) (s : St) (hr : ∀ v : Int32, Acc v → RtI SM G cX12_shadeOf v s) : JJ SM G Acc (f_Mo_shadeOf_J202 v3 v5 s) 202 [(3, .int v3), (5, .int v5)] [] s := by
  unfold f_Mo_shadeOf_J202
  refine jr_iload_n C 0 rfl rfl dX12_shadeOf_202 ?_
  refine jr_iload C 1 rfl dX12_shadeOf_203 ?_
  refine jr_ior C dX12_shadeOf_205 ?_
  refine jr_callSI C km_X12_440 (rk hR rfl) (c_Mo_any (gl G) (v3 ||| v5) s) rfl rfl rfl (Nat.le_of_ble_eq_true rfl) dX12_shadeOf_206 ?_
  exact jr_end (fun h => hr (f_Mo_any (v3 ||| v5)) h _ _ dX12_shadeOf_209)
noncomputable def f_Mo_shadeOf_J249 (v1 : Int32) (v3 : Int32) (v4 : Int32) (v5 : Int32) (s : St) : Option Int32 :=
  if (v5 &&& 31) = 0 then
  some (f_Mo_shifted v1 v3 (v4 &&& 31))
  else
  some (-1)
set_option maxHeartbeats 4000000 in
set_option maxRecDepth 100000 in
theorem t_Mo_shadeOf_J249 (G : GG) (hR : gR G = rmx 2 48) (hL : gL G = 8) (C : Cx SM G cX12_shadeOf RX12) {Acc : Int32 → Prop}  (v1 : Int32) (v3 : Int32) (v4 : Int32) (v5 : Int32) (s : St) (hr : ∀ v : Int32, Acc v → RtI SM G cX12_shadeOf v s) : JJ SM G Acc (f_Mo_shadeOf_J249 v1 v3 v4 v5 s) 249 [(1, .int v1), (3, .int v3), (4, .int v4), (5, .int v5)] [] s := by
  unfold f_Mo_shadeOf_J249
  refine jr_iload C 3 rfl dX12_shadeOf_249 ?_
  refine jr_bipush C bp_31 dX12_shadeOf_251 ?_
  refine jr_iand C dX12_shadeOf_253 ?_
  refine jr_if_eq C (tgt := 261) dX12_shadeOf_254 (by decide) (fun h19 => ?_) (fun h19 => ?_)
  · refine jo_pos h19 ?_
    refine jr_iload_n C 0 rfl rfl dX12_shadeOf_261 ?_
    refine jr_iload_n C 1 rfl rfl dX12_shadeOf_262 ?_
    refine jr_iload C 2 rfl dX12_shadeOf_263 ?_
    refine jr_bipush C bp_31 dX12_shadeOf_265 ?_
    refine jr_iand C dX12_shadeOf_267 ?_
    refine jr_callSI C km_X12_433 (rk hR rfl) (c_Mo_shifted (gl G) v1 v3 (v4 &&& 31) s) rfl rfl rfl (Nat.le_of_ble_eq_true rfl) dX12_shadeOf_268 ?_
    exact jr_end (fun h => hr (f_Mo_shifted v1 v3 (v4 &&& 31)) h _ _ dX12_shadeOf_271)
  refine jo_neg h19 ?_
  refine jr_iconst C ic_m1 dX12_shadeOf_257 ?_
  refine jr_goto C (tgt := 271) dX12_shadeOf_258 (by decide) ?_
  exact jr_end (fun h => hr (-1) h _ _ dX12_shadeOf_271)
noncomputable def f_Mo_shadeOf_J272 (v2 : Int32) (v3 : Int32) (v4 : Int32) (v5 : Int32) (s : St) : Option Int32 :=
  (f_Mo_equalShade v2 v3 v4 v5 s).bind fun q23 =>
  some q23
set_option maxHeartbeats 4000000 in
set_option maxRecDepth 100000 in
theorem t_Mo_shadeOf_J272 (G : GG) (hR : gR G = rmx 2 48) (hL : gL G = 8) (C : Cx SM G cX12_shadeOf RX12) {Acc : Int32 → Prop}  (v2 : Int32) (v3 : Int32) (v4 : Int32) (v5 : Int32) (s : St) (hr : ∀ v : Int32, Acc v → RtI SM G cX12_shadeOf v s) : JJ SM G Acc (f_Mo_shadeOf_J272 v2 v3 v4 v5 s) 272 [(0, .ref (ad G 0)), (2, .int v2), (3, .int v3), (4, .int v4), (5, .int v5)] [] s := by
  unfold f_Mo_shadeOf_J272
  refine jr_aload_n C 0 rfl rfl dX12_shadeOf_272 ?_
  refine jr_iload_n C 1 rfl rfl dX12_shadeOf_273 ?_
  refine jr_iload_n C 2 rfl rfl dX12_shadeOf_274 ?_
  refine jr_iload C 3 rfl dX12_shadeOf_275 ?_
  refine jr_iload C 4 rfl dX12_shadeOf_277 ?_
  refine jr_bind (fun q23 e24 => ?_)
  refine jr_callVI C FX_10 km_X12_443 oS_0.1 oS_0.2 (rk hR rfl) (c_Mo_equalShade (gl G) v2 v3 v4 v5 s e24) rfl rfl rfl (Nat.le_of_ble_eq_true rfl) dX12_shadeOf_279 ?_
  exact jr_end (fun h => hr q23 h _ _ dX12_shadeOf_282)
noncomputable def f_Mo_shadeOf_J301 (w0 : Int32) (w1 : Int32) (w2 : Int32) (w3 : Int32) (w4 : Int32) (s : St) : Option Int32 :=
  (f_Mo_lessShade w4 w3 w2 w1 w0 s).bind fun q27 =>
  some q27
set_option maxHeartbeats 4000000 in
set_option maxRecDepth 100000 in
theorem t_Mo_shadeOf_J301 (G : GG) (hR : gR G = rmx 2 48) (hL : gL G = 8) (C : Cx SM G cX12_shadeOf RX12) {Acc : Int32 → Prop}  (w0 : Int32) (w1 : Int32) (w2 : Int32) (w3 : Int32) (w4 : Int32) (s : St) (hr : ∀ v : Int32, Acc v → RtI SM G cX12_shadeOf v s) : JJ SM G Acc (f_Mo_shadeOf_J301 w0 w1 w2 w3 w4 s) 301 [] [.int w0, .int w1, .int w2, .int w3, .int w4, .ref (ad G 0)] s := by
  unfold f_Mo_shadeOf_J301
  refine jr_bind (fun q27 e28 => ?_)
  refine jr_callVI C FX_10 km_X12_447 oS_0.1 oS_0.2 (rk hR rfl) (c_Mo_lessShade (gl G) w4 w3 w2 w1 w0 s e28) rfl rfl rfl (Nat.le_of_ble_eq_true rfl) dX12_shadeOf_301 ?_
  exact jr_end (fun h => hr q27 h _ _ dX12_shadeOf_304)
noncomputable def f_Mo_shadeOf (v1 : Int32) (v2 : Int32) (v3 : Int32) (v4 : Int32) (v5 : Int32) (s : St) : Option Int32 :=
  lt (v2 &&& (v3 ^^^ (-1))) fun x1 =>
  lt (v2 ||| v3) fun x2 =>
  if v1 = 4 then
  (if (s.1 0 29) = 0 then
  some (f_Mo_left (v3 ||| v5))
  else
  some ((((x1 + (v4 &&& (v5 ^^^ (-1)))) ^^^ (x2 + (v4 ||| v5))) ||| v3) ||| v5))
  else if v1 = 5 then
  (if (s.1 0 29) = 0 then
  some (f_Mo_left (v3 ||| v5))
  else
  some ((((x1 - (v4 ||| v5)) ^^^ (x2 - (v4 &&& (v5 ^^^ (-1))))) ||| v3) ||| v5))
  else if v1 = 6 then
  (if (s.1 0 29) = 1 then
  (if v3 = 0 then
  (if v2 = 0 then
  some 0
  else
  f_Mo_shadeOf_J180 v3 v4 v5 s)
  else
  f_Mo_shadeOf_J180 v3 v4 v5 s)
  else
  f_Mo_shadeOf_J194 v3 v5 s)
  else if v1 = 7 then
  f_Mo_shadeOf_J202 v3 v5 s
  else if v1 = 8 then
  f_Mo_shadeOf_J202 v3 v5 s
  else if v1 = 9 then
  some (((v3 ||| v5) &&& (v2 ||| v3)) &&& (v4 ||| v5))
  else if v1 = 10 then
  some (((v3 ||| v5) &&& ((v2 ^^^ (-1)) ||| v3)) &&& ((v4 ^^^ (-1)) ||| v5))
  else if v1 = 11 then
  some (v3 ||| v5)
  else if v1 = 12 then
  f_Mo_shadeOf_J249 v1 v3 v4 v5 s
  else if v1 = 13 then
  f_Mo_shadeOf_J249 v1 v3 v4 v5 s
  else if v1 = 14 then
  f_Mo_shadeOf_J249 v1 v3 v4 v5 s
  else if v1 = 15 then
  f_Mo_shadeOf_J272 v2 v3 v4 v5 s
  else if v1 = 16 then
  f_Mo_shadeOf_J272 v2 v3 v4 v5 s
  else if v1 = 17 then
  f_Mo_shadeOf_J301 1 v5 v4 v3 v2 s
  else
  f_Mo_shadeOf_J301 0 v5 v4 v3 v2 s
set_option maxHeartbeats 4000000 in
set_option maxRecDepth 100000 in
theorem t_Mo_shadeOf (G : GG) (hR : gR G = rmx 2 48) (hL : gL G = 8) (C : Cx SM G cX12_shadeOf RX12) {Acc : Int32 → Prop}  (v1 : Int32) (v2 : Int32) (v3 : Int32) (v4 : Int32) (v5 : Int32) (s : St) (hr : ∀ v : Int32, Acc v → RtI SM G cX12_shadeOf v s) : JJ SM G Acc (f_Mo_shadeOf v1 v2 v3 v4 v5 s) 0 [(0, .ref (ad G 0)), (1, .int v1), (2, .int v2), (3, .int v3), (4, .int v4), (5, .int v5)] [] s := by
  unfold f_Mo_shadeOf
  refine jr_iload_n C 2 rfl rfl dX12_shadeOf_0 ?_
  refine jr_iload_n C 3 rfl rfl dX12_shadeOf_1 ?_
  refine jr_iconst C ic_m1 dX12_shadeOf_2 ?_
  refine jr_ixor C dX12_shadeOf_3 ?_
  refine jr_iand C dX12_shadeOf_4 ?_
  refine jr_ltI (fun x1 => ?_)
  refine jr_istore C (lv' := [(6, .int x1), (0, .ref (ad G 0)), (1, .int v1), (2, .int v2), (3, .int v3), (4, .int v4), (5, .int v5)]) (ltL hL rfl) rfl dX12_shadeOf_5 ?_
  refine jr_iload_n C 3 rfl rfl dX12_shadeOf_7 ?_
  refine jr_iload_n C 4 rfl rfl dX12_shadeOf_8 ?_
  refine jr_ior C dX12_shadeOf_9 ?_
  refine jr_ltI (fun x2 => ?_)
  refine jr_istore C (lv' := [(7, .int x2), (6, .int x1), (0, .ref (ad G 0)), (1, .int v1), (2, .int v2), (3, .int v3), (4, .int v4), (5, .int v5)]) (ltL hL rfl) rfl dX12_shadeOf_10 ?_
  refine jr_iload_n C 3 rfl rfl dX12_shadeOf_12 ?_
  refine jo_cases (fun h3 => ?_) (fun h3 => ?_)
  · refine jr_tabIn C dX12_shadeOf_13 h3 (by decide) (by decide) rfl (tgt := 80) (by decide) ?_
    refine jr_aload_n C 2 rfl rfl dX12_shadeOf_80 ?_
    refine jr_getI C FX_10 29 oS_0.1 oS_0.2 ff_10_29.1 ff_10_29.2 fl_X12_397 dX12_shadeOf_81 ?_
    refine jr_if_ne C (tgt := 97) dX12_shadeOf_84 (by decide) (fun h4 => ?_) (fun h4 => ?_)
    · refine jo_neg h4 ?_
      refine jr_iload C 1 rfl dX12_shadeOf_97 ?_
      refine jr_iload C 6 rfl dX12_shadeOf_99 ?_
      refine jr_iload C 7 rfl dX12_shadeOf_101 ?_
      refine jr_iconst C ic_m1 dX12_shadeOf_103 ?_
      refine jr_ixor C dX12_shadeOf_104 ?_
      refine jr_iand C dX12_shadeOf_105 ?_
      refine jr_iadd C dX12_shadeOf_106 ?_
      refine jr_iload C 0 rfl dX12_shadeOf_107 ?_
      refine jr_iload C 6 rfl dX12_shadeOf_109 ?_
      refine jr_iload C 7 rfl dX12_shadeOf_111 ?_
      refine jr_ior C dX12_shadeOf_113 ?_
      refine jr_iadd C dX12_shadeOf_114 ?_
      refine jr_ixor C dX12_shadeOf_115 ?_
      refine jr_iload_n C 5 rfl rfl dX12_shadeOf_116 ?_
      refine jr_ior C dX12_shadeOf_117 ?_
      refine jr_iload C 7 rfl dX12_shadeOf_118 ?_
      refine jr_ior C dX12_shadeOf_120 ?_
      exact jr_end (fun h => hr ((((x1 + (v4 &&& (v5 ^^^ (-1)))) ^^^ (x2 + (v4 ||| v5))) ||| v3) ||| v5) h _ _ dX12_shadeOf_121)
    refine jo_pos h4 ?_
    refine jr_iload_n C 5 rfl rfl dX12_shadeOf_87 ?_
    refine jr_iload C 7 rfl dX12_shadeOf_88 ?_
    refine jr_ior C dX12_shadeOf_90 ?_
    refine jr_callSI C km_X12_437 (rk hR rfl) (c_Mo_left (gl G) (v3 ||| v5) s) rfl rfl rfl (Nat.le_of_ble_eq_true rfl) dX12_shadeOf_91 ?_
    refine jr_goto C (tgt := 121) dX12_shadeOf_94 (by decide) ?_
    exact jr_end (fun h => hr (f_Mo_left (v3 ||| v5)) h _ _ dX12_shadeOf_121)
  refine jo_cases (fun h5 => ?_) (fun h5 => ?_)
  · refine jr_tabIn C dX12_shadeOf_13 h5 (by decide) (by decide) rfl (tgt := 122) (by decide) ?_
    refine jr_aload_n C 2 rfl rfl dX12_shadeOf_122 ?_
    refine jr_getI C FX_10 29 oS_0.1 oS_0.2 ff_10_29.1 ff_10_29.2 fl_X12_397 dX12_shadeOf_123 ?_
    refine jr_if_ne C (tgt := 139) dX12_shadeOf_126 (by decide) (fun h6 => ?_) (fun h6 => ?_)
    · refine jo_neg h6 ?_
      refine jr_iload C 1 rfl dX12_shadeOf_139 ?_
      refine jr_iload C 6 rfl dX12_shadeOf_141 ?_
      refine jr_iload C 7 rfl dX12_shadeOf_143 ?_
      refine jr_ior C dX12_shadeOf_145 ?_
      refine jr_isub C dX12_shadeOf_146 ?_
      refine jr_iload C 0 rfl dX12_shadeOf_147 ?_
      refine jr_iload C 6 rfl dX12_shadeOf_149 ?_
      refine jr_iload C 7 rfl dX12_shadeOf_151 ?_
      refine jr_iconst C ic_m1 dX12_shadeOf_153 ?_
      refine jr_ixor C dX12_shadeOf_154 ?_
      refine jr_iand C dX12_shadeOf_155 ?_
      refine jr_isub C dX12_shadeOf_156 ?_
      refine jr_ixor C dX12_shadeOf_157 ?_
      refine jr_iload_n C 5 rfl rfl dX12_shadeOf_158 ?_
      refine jr_ior C dX12_shadeOf_159 ?_
      refine jr_iload C 7 rfl dX12_shadeOf_160 ?_
      refine jr_ior C dX12_shadeOf_162 ?_
      exact jr_end (fun h => hr ((((x1 - (v4 ||| v5)) ^^^ (x2 - (v4 &&& (v5 ^^^ (-1))))) ||| v3) ||| v5) h _ _ dX12_shadeOf_163)
    refine jo_pos h6 ?_
    refine jr_iload_n C 5 rfl rfl dX12_shadeOf_129 ?_
    refine jr_iload C 7 rfl dX12_shadeOf_130 ?_
    refine jr_ior C dX12_shadeOf_132 ?_
    refine jr_callSI C km_X12_437 (rk hR rfl) (c_Mo_left (gl G) (v3 ||| v5) s) rfl rfl rfl (Nat.le_of_ble_eq_true rfl) dX12_shadeOf_133 ?_
    refine jr_goto C (tgt := 163) dX12_shadeOf_136 (by decide) ?_
    exact jr_end (fun h => hr (f_Mo_left (v3 ||| v5)) h _ _ dX12_shadeOf_163)
  refine jo_cases (fun h7 => ?_) (fun h7 => ?_)
  · refine jr_tabIn C dX12_shadeOf_13 h7 (by decide) (by decide) rfl (tgt := 164) (by decide) ?_
    refine jr_aload_n C 2 rfl rfl dX12_shadeOf_164 ?_
    refine jr_getI C FX_10 29 oS_0.1 oS_0.2 ff_10_29.1 ff_10_29.2 fl_X12_397 dX12_shadeOf_165 ?_
    refine jr_iconst C ic_1 dX12_shadeOf_168 ?_
    refine jr_icmp_ne C (tgt := 194) dX12_shadeOf_169 (by decide) (fun h8 => ?_) (fun h8 => ?_)
    · refine jo_neg h8 ?_
      refine jr_lv [5, 7] rfl ?_
      exact t_Mo_shadeOf_J194 G hR hL C  v3 v5 s hr
    refine jo_pos h8 ?_
    refine jr_iload_n C 5 rfl rfl dX12_shadeOf_172 ?_
    refine jr_if_ne C (tgt := 180) dX12_shadeOf_173 (by decide) (fun h9 => ?_) (fun h9 => ?_)
    · refine jo_neg h9 ?_
      refine jr_lv [5, 6, 7] rfl ?_
      exact t_Mo_shadeOf_J180 G hR hL C  v3 v4 v5 s hr
    refine jo_pos h9 ?_
    refine jr_iload_n C 4 rfl rfl dX12_shadeOf_176 ?_
    refine jr_if_eq C (tgt := 190) dX12_shadeOf_177 (by decide) (fun h12 => ?_) (fun h12 => ?_)
    · refine jo_pos h12 ?_
      refine jr_iconst C ic_0 dX12_shadeOf_190 ?_
      refine jr_goto C (tgt := 201) dX12_shadeOf_191 (by decide) ?_
      exact jr_end (fun h => hr 0 h _ _ dX12_shadeOf_201)
    refine jo_neg h12 ?_
    refine jr_lv [5, 6, 7] rfl ?_
    exact t_Mo_shadeOf_J180 G hR hL C  v3 v4 v5 s hr
  refine jo_cases (fun h13 => ?_) (fun h13 => ?_)
  · refine jr_tabIn C dX12_shadeOf_13 h13 (by decide) (by decide) rfl (tgt := 202) (by decide) ?_
    refine jr_lv [5, 7] rfl ?_
    exact t_Mo_shadeOf_J202 G hR hL C  v3 v5 s hr
  refine jo_cases (fun h14 => ?_) (fun h14 => ?_)
  · refine jr_tabIn C dX12_shadeOf_13 h14 (by decide) (by decide) rfl (tgt := 202) (by decide) ?_
    refine jr_lv [5, 7] rfl ?_
    exact t_Mo_shadeOf_J202 G hR hL C  v3 v5 s hr
  refine jo_cases (fun h15 => ?_) (fun h15 => ?_)
  · refine jr_tabIn C dX12_shadeOf_13 h15 (by decide) (by decide) rfl (tgt := 210) (by decide) ?_
    refine jr_iload_n C 5 rfl rfl dX12_shadeOf_210 ?_
    refine jr_iload C 7 rfl dX12_shadeOf_211 ?_
    refine jr_ior C dX12_shadeOf_213 ?_
    refine jr_iload_n C 4 rfl rfl dX12_shadeOf_214 ?_
    refine jr_iload_n C 5 rfl rfl dX12_shadeOf_215 ?_
    refine jr_ior C dX12_shadeOf_216 ?_
    refine jr_iand C dX12_shadeOf_217 ?_
    refine jr_iload C 6 rfl dX12_shadeOf_218 ?_
    refine jr_iload C 7 rfl dX12_shadeOf_220 ?_
    refine jr_ior C dX12_shadeOf_222 ?_
    refine jr_iand C dX12_shadeOf_223 ?_
    exact jr_end (fun h => hr (((v3 ||| v5) &&& (v2 ||| v3)) &&& (v4 ||| v5)) h _ _ dX12_shadeOf_224)
  refine jo_cases (fun h16 => ?_) (fun h16 => ?_)
  · refine jr_tabIn C dX12_shadeOf_13 h16 (by decide) (by decide) rfl (tgt := 225) (by decide) ?_
    refine jr_iload_n C 5 rfl rfl dX12_shadeOf_225 ?_
    refine jr_iload C 7 rfl dX12_shadeOf_226 ?_
    refine jr_ior C dX12_shadeOf_228 ?_
    refine jr_iload_n C 4 rfl rfl dX12_shadeOf_229 ?_
    refine jr_iconst C ic_m1 dX12_shadeOf_230 ?_
    refine jr_ixor C dX12_shadeOf_231 ?_
    refine jr_iload_n C 5 rfl rfl dX12_shadeOf_232 ?_
    refine jr_ior C dX12_shadeOf_233 ?_
    refine jr_iand C dX12_shadeOf_234 ?_
    refine jr_iload C 6 rfl dX12_shadeOf_235 ?_
    refine jr_iconst C ic_m1 dX12_shadeOf_237 ?_
    refine jr_ixor C dX12_shadeOf_238 ?_
    refine jr_iload C 7 rfl dX12_shadeOf_239 ?_
    refine jr_ior C dX12_shadeOf_241 ?_
    refine jr_iand C dX12_shadeOf_242 ?_
    exact jr_end (fun h => hr (((v3 ||| v5) &&& ((v2 ^^^ (-1)) ||| v3)) &&& ((v4 ^^^ (-1)) ||| v5)) h _ _ dX12_shadeOf_243)
  refine jo_cases (fun h17 => ?_) (fun h17 => ?_)
  · refine jr_tabIn C dX12_shadeOf_13 h17 (by decide) (by decide) rfl (tgt := 244) (by decide) ?_
    refine jr_iload_n C 5 rfl rfl dX12_shadeOf_244 ?_
    refine jr_iload C 7 rfl dX12_shadeOf_245 ?_
    refine jr_ior C dX12_shadeOf_247 ?_
    exact jr_end (fun h => hr (v3 ||| v5) h _ _ dX12_shadeOf_248)
  refine jo_cases (fun h18 => ?_) (fun h18 => ?_)
  · refine jr_tabIn C dX12_shadeOf_13 h18 (by decide) (by decide) rfl (tgt := 249) (by decide) ?_
    refine jr_lv [3, 5, 6, 7] rfl ?_
    exact t_Mo_shadeOf_J249 G hR hL C  v1 v3 v4 v5 s hr
  refine jo_cases (fun h20 => ?_) (fun h20 => ?_)
  · refine jr_tabIn C dX12_shadeOf_13 h20 (by decide) (by decide) rfl (tgt := 249) (by decide) ?_
    refine jr_lv [3, 5, 6, 7] rfl ?_
    exact t_Mo_shadeOf_J249 G hR hL C  v1 v3 v4 v5 s hr
  refine jo_cases (fun h21 => ?_) (fun h21 => ?_)
  · refine jr_tabIn C dX12_shadeOf_13 h21 (by decide) (by decide) rfl (tgt := 249) (by decide) ?_
    refine jr_lv [3, 5, 6, 7] rfl ?_
    exact t_Mo_shadeOf_J249 G hR hL C  v1 v3 v4 v5 s hr
  refine jo_cases (fun h22 => ?_) (fun h22 => ?_)
  · refine jr_tabIn C dX12_shadeOf_13 h22 (by decide) (by decide) rfl (tgt := 272) (by decide) ?_
    refine jr_lv [2, 4, 5, 6, 7] rfl ?_
    exact t_Mo_shadeOf_J272 G hR hL C  v2 v3 v4 v5 s hr
  refine jo_cases (fun h25 => ?_) (fun h25 => ?_)
  · refine jr_tabIn C dX12_shadeOf_13 h25 (by decide) (by decide) rfl (tgt := 272) (by decide) ?_
    refine jr_lv [2, 4, 5, 6, 7] rfl ?_
    exact t_Mo_shadeOf_J272 G hR hL C  v2 v3 v4 v5 s hr
  refine jr_tabOut C dX12_shadeOf_13 (by have e0 := lv_neT h3 (a := 4) (by decide); have e1 := lv_neT h5 (a := 5) (by decide); have e2 := lv_neT h7 (a := 6) (by decide); have e3 := lv_neT h13 (a := 7) (by decide); have e4 := lv_neT h14 (a := 8) (by decide); have e5 := lv_neT h15 (a := 9) (by decide); have e6 := lv_neT h16 (a := 10) (by decide); have e7 := lv_neT h17 (a := 11) (by decide); have e8 := lv_neT h18 (a := 12) (by decide); have e9 := lv_neT h20 (a := 13) (by decide); have e10 := lv_neT h21 (a := 14) (by decide); have e11 := lv_neT h22 (a := 15) (by decide); have e12 := lv_neT h25 (a := 16) (by decide); omega) (tgt := 283) (by decide) ?_
  refine jr_aload_n C 2 rfl rfl dX12_shadeOf_283 ?_
  refine jr_iload_n C 4 rfl rfl dX12_shadeOf_284 ?_
  refine jr_iload_n C 5 rfl rfl dX12_shadeOf_285 ?_
  refine jr_iload C 6 rfl dX12_shadeOf_286 ?_
  refine jr_iload C 7 rfl dX12_shadeOf_288 ?_
  refine jr_iload_n C 3 rfl rfl dX12_shadeOf_290 ?_
  refine jr_bipush C bp_17 dX12_shadeOf_291 ?_
  refine jr_icmp_ne C (tgt := 300) dX12_shadeOf_293 (by decide) (fun h26 => ?_) (fun h26 => ?_)
  · refine jo_neg h26 ?_
    refine jr_iconst C ic_0 dX12_shadeOf_300 ?_
    refine jr_lv [] rfl ?_
    exact t_Mo_shadeOf_J301 G hR hL C  0 v5 v4 v3 v2 s hr
  refine jo_pos h26 ?_
  refine jr_iconst C ic_1 dX12_shadeOf_296 ?_
  refine jr_goto C (tgt := 301) dX12_shadeOf_297 (by decide) ?_
  refine jr_lv [] rfl ?_
  exact t_Mo_shadeOf_J301 G hR hL C  1 v5 v4 v3 v2 s hr
set_option maxRecDepth 100000 in
theorem c_Mo_shadeOf (l : Launch)  (v1 : Int32) (v2 : Int32) (v3 : Int32) (v4 : Int32) (v5 : Int32) (s : St) {q : Int32} (h : f_Mo_shadeOf v1 v2 v3 v4 v5 s = some q) : CT SM l yX12_shadeOf cX12_shadeOf 8 (some .int) 2 48 (fun a => [.ref (a 0), .int v1, .int v2, .int v3, .int v4, .int v5]) s s (fun _ => some (.int q)) :=
  ct_I okX_M (by decide) (fun _ => Nat.le_of_ble_eq_true rfl) (fun G hl hR hL C hr => t_Mo_shadeOf G hR hL C (Acc := fun v => v = q)  v1 v2 v3 v4 v5 s (fun v hv => by rw [hv]; exact hr) ⟨_, h, rfl⟩)
noncomputable def f_Mo_reckon_J96 (v1 : Int32) (v3 : Int32) (v4 : Int32) (v5 : Int32) (v6 : Int32) (v7 : Int32) (v8 : Int32) (v9 : Int32) (s : St) : Option St :=
  (f_Mo_made v1 v4 v7 s).bind fun q17 =>
  (f_Mo_shadeOf v1 v4 v5 v7 v8 s).bind fun q19 =>
  (f_Mo_give v3 q17 q19 (f_Mo_originOf v5 v6 v8 v9) s).bind fun q21 =>
  some q21
set_option maxHeartbeats 4000000 in
set_option maxRecDepth 100000 in
theorem t_Mo_reckon_J96 (G : GG) (hR : gR G = rmx 3 75) (hL : gL G = 10) (C : Cx SM G cX12_reckon RX12) {Acc : St → Prop}  (v1 : Int32) (v3 : Int32) (v4 : Int32) (v5 : Int32) (v6 : Int32) (v7 : Int32) (v8 : Int32) (v9 : Int32) (s : St) (hr : ∀ v : St, Acc v → RtV SM G cX12_reckon v) : JJ SM G Acc (f_Mo_reckon_J96 v1 v3 v4 v5 v6 v7 v8 v9 s) 96 [(0, .ref (ad G 0)), (1, .int v1), (3, .int v3), (4, .int v4), (5, .int v5), (6, .int v6), (7, .int v7), (8, .int v8), (9, .int v9)] [] s := by
  unfold f_Mo_reckon_J96
  refine jr_aload_n C 0 rfl rfl dX12_reckon_96 ?_
  refine jr_iload_n C 2 rfl rfl dX12_reckon_97 ?_
  refine jr_aload_n C 0 rfl rfl dX12_reckon_98 ?_
  refine jr_iload_n C 1 rfl rfl dX12_reckon_99 ?_
  refine jr_iload C 3 rfl dX12_reckon_100 ?_
  refine jr_iload C 6 rfl dX12_reckon_102 ?_
  refine jr_bind (fun q17 e18 => ?_)
  refine jr_callVI C FX_10 km_X12_463 oS_0.1 oS_0.2 (rk hR rfl) (c_Mo_made (gl G) v1 v4 v7 s e18) rfl rfl rfl (Nat.le_of_ble_eq_true rfl) dX12_reckon_104 ?_
  refine jr_aload_n C 0 rfl rfl dX12_reckon_107 ?_
  refine jr_iload_n C 1 rfl rfl dX12_reckon_108 ?_
  refine jr_iload C 3 rfl dX12_reckon_109 ?_
  refine jr_iload C 4 rfl dX12_reckon_111 ?_
  refine jr_iload C 6 rfl dX12_reckon_113 ?_
  refine jr_iload C 7 rfl dX12_reckon_115 ?_
  refine jr_bind (fun q19 e20 => ?_)
  refine jr_callVI C FX_10 km_X12_466 oS_0.1 oS_0.2 (rk hR rfl) (c_Mo_shadeOf (gl G) v1 v4 v5 v7 v8 s e20) rfl rfl rfl (Nat.le_of_ble_eq_true rfl) dX12_reckon_117 ?_
  refine jr_iload C 4 rfl dX12_reckon_120 ?_
  refine jr_iload C 5 rfl dX12_reckon_122 ?_
  refine jr_iload C 7 rfl dX12_reckon_124 ?_
  refine jr_iload C 8 rfl dX12_reckon_126 ?_
  refine jr_callSI C km_X12_470 (rk hR rfl) (c_Mo_originOf (gl G) v5 v6 v8 v9 s) rfl rfl rfl (Nat.le_of_ble_eq_true rfl) dX12_reckon_128 ?_
  refine jr_bind (fun q21 e22 => ?_)
  refine jr_callVV C FX_10 km_X12_473 oS_0.1 oS_0.2 (rk hR rfl) (c_Mo_give (gl G) v3 q17 q19 (f_Mo_originOf v5 v6 v8 v9) s e22) rfl rfl rfl (Nat.le_of_ble_eq_true rfl) dX12_reckon_131 ?_
  exact jr_end (fun h => hr q21 h _ _ dX12_reckon_134)
noncomputable def f_Mo_reckon_J85 (v1 : Int32) (v3 : Int32) (v4 : Int32) (v5 : Int32) (v6 : Int32) (v7 : Int32) (v8 : Int32) (v9 : Int32) (s : St) : Option St :=
  if v7 = 0 then
  ((f_Mo_trap 1 s).bind fun q23 =>
  some q23)
  else
  f_Mo_reckon_J96 v1 v3 v4 v5 v6 v7 v8 v9 s
set_option maxHeartbeats 4000000 in
set_option maxRecDepth 100000 in
theorem t_Mo_reckon_J85 (G : GG) (hR : gR G = rmx 3 75) (hL : gL G = 10) (C : Cx SM G cX12_reckon RX12) {Acc : St → Prop}  (v1 : Int32) (v3 : Int32) (v4 : Int32) (v5 : Int32) (v6 : Int32) (v7 : Int32) (v8 : Int32) (v9 : Int32) (s : St) (hr : ∀ v : St, Acc v → RtV SM G cX12_reckon v) : JJ SM G Acc (f_Mo_reckon_J85 v1 v3 v4 v5 v6 v7 v8 v9 s) 85 [(0, .ref (ad G 0)), (1, .int v1), (3, .int v3), (4, .int v4), (5, .int v5), (6, .int v6), (7, .int v7), (8, .int v8), (9, .int v9)] [] s := by
  unfold f_Mo_reckon_J85
  refine jr_iload C 6 rfl dX12_reckon_85 ?_
  refine jr_if_ne C (tgt := 96) dX12_reckon_87 (by decide) (fun h16 => ?_) (fun h16 => ?_)
  · refine jo_neg h16 ?_
    exact t_Mo_reckon_J96 G hR hL C  v1 v3 v4 v5 v6 v7 v8 v9 s hr
  refine jo_pos h16 ?_
  refine jr_aload_n C 0 rfl rfl dX12_reckon_90 ?_
  refine jr_iconst C ic_1 dX12_reckon_91 ?_
  refine jr_bind (fun q23 e24 => ?_)
  refine jr_callVV C FX_10 km_X12_423 oS_0.1 oS_0.2 (rk hR rfl) (c_Mo_trap (gl G) 1 s e24) rfl rfl rfl (Nat.le_of_ble_eq_true rfl) dX12_reckon_92 ?_
  exact jr_end (fun h => hr q23 h _ _ dX12_reckon_95)
noncomputable def f_Mo_reckon_J73 (v1 : Int32) (v3 : Int32) (v4 : Int32) (v5 : Int32) (v6 : Int32) (v7 : Int32) (v8 : Int32) (v9 : Int32) (s : St) : Option St :=
  if v8 = 0 then
  f_Mo_reckon_J85 v1 v3 v4 v5 v6 v7 v8 v9 s
  else
  (f_Mo_told 4 v9 s).bind fun q25 =>
  f_Mo_reckon_J85 v1 v3 v4 v5 v6 v7 v8 v9 q25
set_option maxHeartbeats 4000000 in
set_option maxRecDepth 100000 in
theorem t_Mo_reckon_J73 (G : GG) (hR : gR G = rmx 3 75) (hL : gL G = 10) (C : Cx SM G cX12_reckon RX12) {Acc : St → Prop}  (v1 : Int32) (v3 : Int32) (v4 : Int32) (v5 : Int32) (v6 : Int32) (v7 : Int32) (v8 : Int32) (v9 : Int32) (s : St) (hr : ∀ v : St, Acc v → RtV SM G cX12_reckon v) : JJ SM G Acc (f_Mo_reckon_J73 v1 v3 v4 v5 v6 v7 v8 v9 s) 73 [(0, .ref (ad G 0)), (1, .int v1), (3, .int v3), (4, .int v4), (5, .int v5), (6, .int v6), (7, .int v7), (8, .int v8), (9, .int v9)] [] s := by
  unfold f_Mo_reckon_J73
  refine jr_iload C 7 rfl dX12_reckon_73 ?_
  refine jr_if_eq C (tgt := 85) dX12_reckon_75 (by decide) (fun h15 => ?_) (fun h15 => ?_)
  · refine jo_pos h15 ?_
    exact t_Mo_reckon_J85 G hR hL C  v1 v3 v4 v5 v6 v7 v8 v9 s hr
  refine jo_neg h15 ?_
  refine jr_aload_n C 0 rfl rfl dX12_reckon_78 ?_
  refine jr_iconst C ic_4 dX12_reckon_79 ?_
  refine jr_iload C 8 rfl dX12_reckon_80 ?_
  refine jr_bind (fun q25 e26 => ?_)
  refine jr_callVV C FX_10 km_X12_460 oS_0.1 oS_0.2 (rk hR rfl) (c_Mo_told (gl G) 4 v9 s e26) rfl rfl rfl (Nat.le_of_ble_eq_true rfl) dX12_reckon_82 ?_
  exact t_Mo_reckon_J85 G hR hL C  v1 v3 v4 v5 v6 v7 v8 v9 q25 hr
noncomputable def f_Mo_reckon (v1 : Int32) (v2 : Int32) (s : St) : Option St :=
  gd v2 1200 <|
  lt (s.1 5 (v2 : Int32).toNatClampNeg) fun x1 =>
  (f_Mo_value (v2 + 1) s).bind fun q2 =>
  (f_Mo_shade (v2 + 1) s).bind fun q4 =>
  (f_Mo_origin (v2 + 1) s).bind fun q6 =>
  (f_Mo_value (v2 + 2) s).bind fun q8 =>
  (f_Mo_shade (v2 + 2) s).bind fun q10 =>
  (f_Mo_origin (v2 + 2) s).bind fun q12 =>
  if v1 = 7 then
  f_Mo_reckon_J73 v1 x1 q2 q4 q6 q8 q10 q12 s
  else
  if v1 = 8 then
  f_Mo_reckon_J73 v1 x1 q2 q4 q6 q8 q10 q12 s
  else
  f_Mo_reckon_J96 v1 x1 q2 q4 q6 q8 q10 q12 s
set_option maxHeartbeats 4000000 in
set_option maxRecDepth 100000 in
theorem t_Mo_reckon (G : GG) (hR : gR G = rmx 3 75) (hL : gL G = 10) (C : Cx SM G cX12_reckon RX12) {Acc : St → Prop}  (v1 : Int32) (v2 : Int32) (s : St) (hr : ∀ v : St, Acc v → RtV SM G cX12_reckon v) : JJ SM G Acc (f_Mo_reckon v1 v2 s) 0 [(0, .ref (ad G 0)), (1, .int v1), (2, .int v2)] [] s := by
  unfold f_Mo_reckon
  refine jr_aload_n C 0 rfl rfl dX12_reckon_0 ?_
  refine jr_getR C FX_10 6 oS_0.1 oS_0.2 ff_10_6.1 ff_10_6.2 rfl fl_X12_24 dX12_reckon_1 ?_
  refine jr_iload_n C 2 rfl rfl dX12_reckon_4 ?_
  refine jr_iald C oS_5.1 oS_5.2.1 oS_5.2.2 dX12_reckon_5 ?_
  refine jr_ltI (fun x1 => ?_)
  refine jr_istore_n C (lv' := [(3, .int x1), (0, .ref (ad G 0)), (1, .int v1), (2, .int v2)]) (ltL hL rfl) rfl rfl dX12_reckon_6 ?_
  refine jr_aload_n C 1 rfl rfl dX12_reckon_7 ?_
  refine jr_iload_n C 3 rfl rfl dX12_reckon_8 ?_
  refine jr_iconst C ic_1 dX12_reckon_9 ?_
  refine jr_iadd C dX12_reckon_10 ?_
  refine jr_bind (fun q2 e3 => ?_)
  refine jr_callVI C FX_10 km_X12_451 oS_0.1 oS_0.2 (rk hR rfl) (c_Mo_value (gl G) (v2 + 1) s e3) rfl rfl rfl (Nat.le_of_ble_eq_true rfl) dX12_reckon_11 ?_
  refine jr_istore C (lv' := [(4, .int q2), (3, .int x1), (0, .ref (ad G 0)), (1, .int v1), (2, .int v2)]) (ltL hL rfl) rfl dX12_reckon_14 ?_
  refine jr_aload_n C 2 rfl rfl dX12_reckon_16 ?_
  refine jr_iload_n C 4 rfl rfl dX12_reckon_17 ?_
  refine jr_iconst C ic_1 dX12_reckon_18 ?_
  refine jr_iadd C dX12_reckon_19 ?_
  refine jr_bind (fun q4 e5 => ?_)
  refine jr_callVI C FX_10 km_X12_454 oS_0.1 oS_0.2 (rk hR rfl) (c_Mo_shade (gl G) (v2 + 1) s e5) rfl rfl rfl (Nat.le_of_ble_eq_true rfl) dX12_reckon_20 ?_
  refine jr_istore C (lv' := [(5, .int q4), (4, .int q2), (3, .int x1), (0, .ref (ad G 0)), (1, .int v1), (2, .int v2)]) (ltL hL rfl) rfl dX12_reckon_23 ?_
  refine jr_aload_n C 3 rfl rfl dX12_reckon_25 ?_
  refine jr_iload_n C 5 rfl rfl dX12_reckon_26 ?_
  refine jr_iconst C ic_1 dX12_reckon_27 ?_
  refine jr_iadd C dX12_reckon_28 ?_
  refine jr_bind (fun q6 e7 => ?_)
  refine jr_callVI C FX_10 km_X12_457 oS_0.1 oS_0.2 (rk hR rfl) (c_Mo_origin (gl G) (v2 + 1) s e7) rfl rfl rfl (Nat.le_of_ble_eq_true rfl) dX12_reckon_29 ?_
  refine jr_istore C (lv' := [(6, .int q6), (5, .int q4), (4, .int q2), (3, .int x1), (0, .ref (ad G 0)), (1, .int v1), (2, .int v2)]) (ltL hL rfl) rfl dX12_reckon_32 ?_
  refine jr_aload_n C 4 rfl rfl dX12_reckon_34 ?_
  refine jr_iload_n C 6 rfl rfl dX12_reckon_35 ?_
  refine jr_iconst C ic_2 dX12_reckon_36 ?_
  refine jr_iadd C dX12_reckon_37 ?_
  refine jr_bind (fun q8 e9 => ?_)
  refine jr_callVI C FX_10 km_X12_451 oS_0.1 oS_0.2 (rk hR rfl) (c_Mo_value (gl G) (v2 + 2) s e9) rfl rfl rfl (Nat.le_of_ble_eq_true rfl) dX12_reckon_38 ?_
  refine jr_istore C (lv' := [(7, .int q8), (6, .int q6), (5, .int q4), (4, .int q2), (3, .int x1), (0, .ref (ad G 0)), (1, .int v1), (2, .int v2)]) (ltL hL rfl) rfl dX12_reckon_41 ?_
  refine jr_aload_n C 5 rfl rfl dX12_reckon_43 ?_
  refine jr_iload_n C 7 rfl rfl dX12_reckon_44 ?_
  refine jr_iconst C ic_2 dX12_reckon_45 ?_
  refine jr_iadd C dX12_reckon_46 ?_
  refine jr_bind (fun q10 e11 => ?_)
  refine jr_callVI C FX_10 km_X12_454 oS_0.1 oS_0.2 (rk hR rfl) (c_Mo_shade (gl G) (v2 + 2) s e11) rfl rfl rfl (Nat.le_of_ble_eq_true rfl) dX12_reckon_47 ?_
  refine jr_istore C (lv' := [(8, .int q10), (7, .int q8), (6, .int q6), (5, .int q4), (4, .int q2), (3, .int x1), (0, .ref (ad G 0)), (1, .int v1), (2, .int v2)]) (ltL hL rfl) rfl dX12_reckon_50 ?_
  refine jr_aload_n C 6 rfl rfl dX12_reckon_52 ?_
  refine jr_iload_n C 8 rfl rfl dX12_reckon_53 ?_
  refine jr_iconst C ic_2 dX12_reckon_54 ?_
  refine jr_iadd C dX12_reckon_55 ?_
  refine jr_bind (fun q12 e13 => ?_)
  refine jr_callVI C FX_10 km_X12_457 oS_0.1 oS_0.2 (rk hR rfl) (c_Mo_origin (gl G) (v2 + 2) s e13) rfl rfl rfl (Nat.le_of_ble_eq_true rfl) dX12_reckon_56 ?_
  refine jr_istore C (lv' := [(9, .int q12), (8, .int q10), (7, .int q8), (6, .int q6), (5, .int q4), (4, .int q2), (3, .int x1), (0, .ref (ad G 0)), (1, .int v1), (2, .int v2)]) (ltL hL rfl) rfl dX12_reckon_59 ?_
  refine jr_iload_n C 8 rfl rfl dX12_reckon_61 ?_
  refine jr_bipush C bp_7 dX12_reckon_62 ?_
  refine jr_icmp_eq C (tgt := 73) dX12_reckon_64 (by decide) (fun h14 => ?_) (fun h14 => ?_)
  · refine jo_pos h14 ?_
    refine jr_lv [7, 8, 6, 5, 4, 3, 2, 1, 0] rfl ?_
    exact t_Mo_reckon_J73 G hR hL C  v1 x1 q2 q4 q6 q8 q10 q12 s hr
  refine jo_neg h14 ?_
  refine jr_iload_n C 8 rfl rfl dX12_reckon_67 ?_
  refine jr_bipush C bp_8 dX12_reckon_68 ?_
  refine jr_icmp_ne C (tgt := 96) dX12_reckon_70 (by decide) (fun h27 => ?_) (fun h27 => ?_)
  · refine jo_neg h27 ?_
    refine jr_lv [7, 8, 6, 5, 4, 3, 2, 1, 0] rfl ?_
    exact t_Mo_reckon_J96 G hR hL C  v1 x1 q2 q4 q6 q8 q10 q12 s hr
  refine jo_pos h27 ?_
  refine jr_lv [7, 8, 6, 5, 4, 3, 2, 1, 0] rfl ?_
  exact t_Mo_reckon_J73 G hR hL C  v1 x1 q2 q4 q6 q8 q10 q12 s hr
set_option maxRecDepth 100000 in
theorem c_Mo_reckon (l : Launch)  (v1 : Int32) (v2 : Int32) (s : St) {q : St} (h : f_Mo_reckon v1 v2 s = some q) : CT SM l yX12_reckon cX12_reckon 10 none 3 75 (fun a => [.ref (a 0), .int v1, .int v2]) s q (fun _ => none) :=
  ct_V okX_M (by decide) (fun _ => Nat.le_of_ble_eq_true rfl) (fun G hl hR hL C hr => t_Mo_reckon G hR hL C (Acc := fun v => v = q)  v1 v2 s (fun v hv => by rw [hv]; exact hr) ⟨_, h, rfl⟩)
noncomputable def f_Mo_single (v1 : Int32) (v2 : Int32) (s : St) : Option St :=
  gd v2 1200 <|
  lt (s.1 5 (v2 : Int32).toNatClampNeg) fun x1 =>
  (f_Mo_value (v2 + 1) s).bind fun q2 =>
  (f_Mo_shade (v2 + 1) s).bind fun q4 =>
  (f_Mo_origin (v2 + 1) s).bind fun q6 =>
  if v1 = 0 then
  (gd (v2 + 1) 1200 <|
  (f_Mo_give x1 (s.1 5 ((v2 + 1) : Int32).toNatClampNeg) 0 0 s).bind fun q25 =>
  some q25)
  else
  if v1 = 1 then
  ((f_Mo_give x1 q2 q4 q6 s).bind fun q23 =>
  some q23)
  else
  if v1 = 2 then
  ((f_Mo_give x1 (q2 ^^^ (-1)) q4 q6 s).bind fun q21 =>
  some q21)
  else
  if v1 = 3 then
  ((f_Mo_shadeOf 5 0 0 q2 q4 s).bind fun q17 =>
  (f_Mo_give x1 (-q2) q17 q6 s).bind fun q19 =>
  some q19)
  else
  if v1 = 19 then
  ((f_Mo_give x1 ((q2 : Int32).toInt8.toInt32) ((q4 : Int32).toInt8.toInt32) q6 s).bind fun q15 =>
  some q15)
  else
  (f_Mo_give x1 ((q2 : Int32).toInt16.toInt32) ((q4 : Int32).toInt16.toInt32) q6 s).bind fun q13 =>
  some q13
set_option maxHeartbeats 4000000 in
set_option maxRecDepth 100000 in
theorem t_Mo_single (G : GG) (hR : gR G = rmx 3 75) (hL : gL G = 7) (C : Cx SM G cX12_single RX12) {Acc : St → Prop}  (v1 : Int32) (v2 : Int32) (s : St) (hr : ∀ v : St, Acc v → RtV SM G cX12_single v) : JJ SM G Acc (f_Mo_single v1 v2 s) 0 [(0, .ref (ad G 0)), (1, .int v1), (2, .int v2)] [] s := by
  unfold f_Mo_single
  refine jr_aload_n C 0 rfl rfl dX12_single_0 ?_
  refine jr_getR C FX_10 6 oS_0.1 oS_0.2 ff_10_6.1 ff_10_6.2 rfl fl_X12_24 dX12_single_1 ?_
  refine jr_iload_n C 2 rfl rfl dX12_single_4 ?_
  refine jr_iald C oS_5.1 oS_5.2.1 oS_5.2.2 dX12_single_5 ?_
  refine jr_ltI (fun x1 => ?_)
  refine jr_istore_n C (lv' := [(3, .int x1), (0, .ref (ad G 0)), (1, .int v1), (2, .int v2)]) (ltL hL rfl) rfl rfl dX12_single_6 ?_
  refine jr_aload_n C 1 rfl rfl dX12_single_7 ?_
  refine jr_iload_n C 3 rfl rfl dX12_single_8 ?_
  refine jr_iconst C ic_1 dX12_single_9 ?_
  refine jr_iadd C dX12_single_10 ?_
  refine jr_bind (fun q2 e3 => ?_)
  refine jr_callVI C FX_10 km_X12_451 oS_0.1 oS_0.2 (rk hR rfl) (c_Mo_value (gl G) (v2 + 1) s e3) rfl rfl rfl (Nat.le_of_ble_eq_true rfl) dX12_single_11 ?_
  refine jr_istore C (lv' := [(4, .int q2), (3, .int x1), (0, .ref (ad G 0)), (1, .int v1), (2, .int v2)]) (ltL hL rfl) rfl dX12_single_14 ?_
  refine jr_aload_n C 2 rfl rfl dX12_single_16 ?_
  refine jr_iload_n C 4 rfl rfl dX12_single_17 ?_
  refine jr_iconst C ic_1 dX12_single_18 ?_
  refine jr_iadd C dX12_single_19 ?_
  refine jr_bind (fun q4 e5 => ?_)
  refine jr_callVI C FX_10 km_X12_454 oS_0.1 oS_0.2 (rk hR rfl) (c_Mo_shade (gl G) (v2 + 1) s e5) rfl rfl rfl (Nat.le_of_ble_eq_true rfl) dX12_single_20 ?_
  refine jr_istore C (lv' := [(5, .int q4), (4, .int q2), (3, .int x1), (0, .ref (ad G 0)), (1, .int v1), (2, .int v2)]) (ltL hL rfl) rfl dX12_single_23 ?_
  refine jr_aload_n C 3 rfl rfl dX12_single_25 ?_
  refine jr_iload_n C 5 rfl rfl dX12_single_26 ?_
  refine jr_iconst C ic_1 dX12_single_27 ?_
  refine jr_iadd C dX12_single_28 ?_
  refine jr_bind (fun q6 e7 => ?_)
  refine jr_callVI C FX_10 km_X12_457 oS_0.1 oS_0.2 (rk hR rfl) (c_Mo_origin (gl G) (v2 + 1) s e7) rfl rfl rfl (Nat.le_of_ble_eq_true rfl) dX12_single_29 ?_
  refine jr_istore C (lv' := [(6, .int q6), (5, .int q4), (4, .int q2), (3, .int x1), (0, .ref (ad G 0)), (1, .int v1), (2, .int v2)]) (ltL hL rfl) rfl dX12_single_32 ?_
  refine jr_iload_n C 5 rfl rfl dX12_single_34 ?_
  refine jr_if_ne C (tgt := 56) dX12_single_35 (by decide) (fun h8 => ?_) (fun h8 => ?_)
  · refine jo_neg h8 ?_
    refine jr_iload_n C 5 rfl rfl dX12_single_56 ?_
    refine jr_iconst C ic_1 dX12_single_57 ?_
    refine jr_icmp_ne C (tgt := 75) dX12_single_58 (by decide) (fun h9 => ?_) (fun h9 => ?_)
    · refine jo_neg h9 ?_
      refine jr_iload_n C 5 rfl rfl dX12_single_75 ?_
      refine jr_iconst C ic_2 dX12_single_76 ?_
      refine jr_icmp_ne C (tgt := 96) dX12_single_77 (by decide) (fun h10 => ?_) (fun h10 => ?_)
      · refine jo_neg h10 ?_
        refine jr_iload_n C 5 rfl rfl dX12_single_96 ?_
        refine jr_iconst C ic_3 dX12_single_97 ?_
        refine jr_icmp_ne C (tgt := 125) dX12_single_98 (by decide) (fun h11 => ?_) (fun h11 => ?_)
        · refine jo_neg h11 ?_
          refine jr_iload_n C 5 rfl rfl dX12_single_125 ?_
          refine jr_bipush C bp_19 dX12_single_126 ?_
          refine jr_icmp_ne C (tgt := 147) dX12_single_128 (by decide) (fun h12 => ?_) (fun h12 => ?_)
          · refine jo_neg h12 ?_
            refine jr_aload_n C 4 rfl rfl dX12_single_147 ?_
            refine jr_iload_n C 3 rfl rfl dX12_single_148 ?_
            refine jr_iload C 2 rfl dX12_single_149 ?_
            refine jr_i2s C dX12_single_151 ?_
            refine jr_iload C 1 rfl dX12_single_152 ?_
            refine jr_i2s C dX12_single_154 ?_
            refine jr_iload C 0 rfl dX12_single_155 ?_
            refine jr_bind (fun q13 e14 => ?_)
            refine jr_callVV C FX_10 km_X12_473 oS_0.1 oS_0.2 (rk hR rfl) (c_Mo_give (gl G) x1 ((q2 : Int32).toInt16.toInt32) ((q4 : Int32).toInt16.toInt32) q6 s e14) rfl rfl rfl (Nat.le_of_ble_eq_true rfl) dX12_single_157 ?_
            exact jr_end (fun h => hr q13 h _ _ dX12_single_160)
          refine jo_pos h12 ?_
          refine jr_aload_n C 4 rfl rfl dX12_single_131 ?_
          refine jr_iload_n C 3 rfl rfl dX12_single_132 ?_
          refine jr_iload C 2 rfl dX12_single_133 ?_
          refine jr_i2b C dX12_single_135 ?_
          refine jr_iload C 1 rfl dX12_single_136 ?_
          refine jr_i2b C dX12_single_138 ?_
          refine jr_iload C 0 rfl dX12_single_139 ?_
          refine jr_bind (fun q15 e16 => ?_)
          refine jr_callVV C FX_10 km_X12_473 oS_0.1 oS_0.2 (rk hR rfl) (c_Mo_give (gl G) x1 ((q2 : Int32).toInt8.toInt32) ((q4 : Int32).toInt8.toInt32) q6 s e16) rfl rfl rfl (Nat.le_of_ble_eq_true rfl) dX12_single_141 ?_
          refine jr_goto C (tgt := 160) dX12_single_144 (by decide) ?_
          exact jr_end (fun h => hr q15 h _ _ dX12_single_160)
        refine jo_pos h11 ?_
        refine jr_aload_n C 4 rfl rfl dX12_single_101 ?_
        refine jr_iload_n C 3 rfl rfl dX12_single_102 ?_
        refine jr_iload C 2 rfl dX12_single_103 ?_
        refine jr_ineg C dX12_single_105 ?_
        refine jr_aload_n C 4 rfl rfl dX12_single_106 ?_
        refine jr_iconst C ic_5 dX12_single_107 ?_
        refine jr_iconst C ic_0 dX12_single_108 ?_
        refine jr_iconst C ic_0 dX12_single_109 ?_
        refine jr_iload C 2 rfl dX12_single_110 ?_
        refine jr_iload C 1 rfl dX12_single_112 ?_
        refine jr_bind (fun q17 e18 => ?_)
        refine jr_callVI C FX_10 km_X12_466 oS_0.1 oS_0.2 (rk hR rfl) (c_Mo_shadeOf (gl G) 5 0 0 q2 q4 s e18) rfl rfl rfl (Nat.le_of_ble_eq_true rfl) dX12_single_114 ?_
        refine jr_iload C 0 rfl dX12_single_117 ?_
        refine jr_bind (fun q19 e20 => ?_)
        refine jr_callVV C FX_10 km_X12_473 oS_0.1 oS_0.2 (rk hR rfl) (c_Mo_give (gl G) x1 (-q2) q17 q6 s e20) rfl rfl rfl (Nat.le_of_ble_eq_true rfl) dX12_single_119 ?_
        refine jr_goto C (tgt := 160) dX12_single_122 (by decide) ?_
        exact jr_end (fun h => hr q19 h _ _ dX12_single_160)
      refine jo_pos h10 ?_
      refine jr_aload_n C 4 rfl rfl dX12_single_80 ?_
      refine jr_iload_n C 3 rfl rfl dX12_single_81 ?_
      refine jr_iload C 2 rfl dX12_single_82 ?_
      refine jr_iconst C ic_m1 dX12_single_84 ?_
      refine jr_ixor C dX12_single_85 ?_
      refine jr_iload C 1 rfl dX12_single_86 ?_
      refine jr_iload C 0 rfl dX12_single_88 ?_
      refine jr_bind (fun q21 e22 => ?_)
      refine jr_callVV C FX_10 km_X12_473 oS_0.1 oS_0.2 (rk hR rfl) (c_Mo_give (gl G) x1 (q2 ^^^ (-1)) q4 q6 s e22) rfl rfl rfl (Nat.le_of_ble_eq_true rfl) dX12_single_90 ?_
      refine jr_goto C (tgt := 160) dX12_single_93 (by decide) ?_
      exact jr_end (fun h => hr q21 h _ _ dX12_single_160)
    refine jo_pos h9 ?_
    refine jr_aload_n C 4 rfl rfl dX12_single_61 ?_
    refine jr_iload_n C 3 rfl rfl dX12_single_62 ?_
    refine jr_iload C 2 rfl dX12_single_63 ?_
    refine jr_iload C 1 rfl dX12_single_65 ?_
    refine jr_iload C 0 rfl dX12_single_67 ?_
    refine jr_bind (fun q23 e24 => ?_)
    refine jr_callVV C FX_10 km_X12_473 oS_0.1 oS_0.2 (rk hR rfl) (c_Mo_give (gl G) x1 q2 q4 q6 s e24) rfl rfl rfl (Nat.le_of_ble_eq_true rfl) dX12_single_69 ?_
    refine jr_goto C (tgt := 160) dX12_single_72 (by decide) ?_
    exact jr_end (fun h => hr q23 h _ _ dX12_single_160)
  refine jo_pos h8 ?_
  refine jr_aload_n C 4 rfl rfl dX12_single_38 ?_
  refine jr_iload_n C 3 rfl rfl dX12_single_39 ?_
  refine jr_aload_n C 4 rfl rfl dX12_single_40 ?_
  refine jr_getR C FX_10 6 oS_0.1 oS_0.2 ff_10_6.1 ff_10_6.2 rfl fl_X12_24 dX12_single_41 ?_
  refine jr_iload_n C 6 rfl rfl dX12_single_44 ?_
  refine jr_iconst C ic_1 dX12_single_45 ?_
  refine jr_iadd C dX12_single_46 ?_
  refine jr_iald C oS_5.1 oS_5.2.1 oS_5.2.2 dX12_single_47 ?_
  refine jr_iconst C ic_0 dX12_single_48 ?_
  refine jr_iconst C ic_0 dX12_single_49 ?_
  refine jr_bind (fun q25 e26 => ?_)
  refine jr_callVV C FX_10 km_X12_473 oS_0.1 oS_0.2 (rk hR rfl) (c_Mo_give (gl G) x1 (s.1 5 ((v2 + 1) : Int32).toNatClampNeg) 0 0 s e26) rfl rfl rfl (Nat.le_of_ble_eq_true rfl) dX12_single_50 ?_
  refine jr_goto C (tgt := 160) dX12_single_53 (by decide) ?_
  exact jr_end (fun h => hr q25 h _ _ dX12_single_160)
set_option maxRecDepth 100000 in
theorem c_Mo_single (l : Launch)  (v1 : Int32) (v2 : Int32) (s : St) {q : St} (h : f_Mo_single v1 v2 s = some q) : CT SM l yX12_single cX12_single 7 none 3 75 (fun a => [.ref (a 0), .int v1, .int v2]) s q (fun _ => none) :=
  ct_V okX_M (by decide) (fun _ => Nat.le_of_ble_eq_true rfl) (fun G hl hR hL C hr => t_Mo_single G hR hL C (Acc := fun v => v = q)  v1 v2 s (fun v hv => by rw [hv]; exact hr) ⟨_, h, rfl⟩)
noncomputable def f_Mo_isThere (v1 : Int32) (s : St) : Option Int32 :=
  if v1 < 0 then
  some 0
  else
  if 4096 ≤ v1 then
  some 0
  else
  gd ((4096 * (s.1 0 28)) + v1) 8192 <|
  if (s.1 19 (((4096 * (s.1 0 28)) + v1) : Int32).toNatClampNeg) = 0 then
  some 0
  else
  some 1
set_option maxHeartbeats 4000000 in
set_option maxRecDepth 100000 in
theorem t_Mo_isThere (G : GG) (hR : gR G = rmx 0 0) (hL : gL G = 2) (C : Cx SM G cX12_isThere RX12) {Acc : Int32 → Prop}  (v1 : Int32) (s : St) (hr : ∀ v : Int32, Acc v → RtZ SM G cX12_isThere v s) : JJ SM G Acc (f_Mo_isThere v1 s) 0 [(0, .ref (ad G 0)), (1, .int v1)] [] s := by
  unfold f_Mo_isThere
  refine jr_iload_n C 1 rfl rfl dX12_isThere_0 ?_
  refine jr_if_lt C (tgt := 33) dX12_isThere_1 (by decide) (fun h1 => ?_) (fun h1 => ?_)
  · refine jo_pos h1 ?_
    refine jr_iconst C ic_0 dX12_isThere_33 ?_
    exact jr_end (fun h => hr 0 h _ _ _ bN0 dX12_isThere_34)
  refine jo_neg h1 ?_
  refine jr_iload_n C 1 rfl rfl dX12_isThere_4 ?_
  refine jr_sipush C sp_4096 dX12_isThere_5 ?_
  refine jr_icmp_ge C (tgt := 33) dX12_isThere_8 (by decide) (fun h2 => ?_) (fun h2 => ?_)
  · refine jo_pos h2 ?_
    refine jr_iconst C ic_0 dX12_isThere_33 ?_
    exact jr_end (fun h => hr 0 h _ _ _ bN0 dX12_isThere_34)
  refine jo_neg h2 ?_
  refine jr_aload_n C 0 rfl rfl dX12_isThere_11 ?_
  refine jr_getR C FX_10 36 oS_0.1 oS_0.2 ff_10_36.1 ff_10_36.2 rfl fl_X12_73 dX12_isThere_12 ?_
  refine jr_sipush C sp_4096 dX12_isThere_15 ?_
  refine jr_aload_n C 0 rfl rfl dX12_isThere_18 ?_
  refine jr_getI C FX_10 28 oS_0.1 oS_0.2 ff_10_28.1 ff_10_28.2 fl_X12_394 dX12_isThere_19 ?_
  refine jr_imul C dX12_isThere_22 ?_
  refine jr_iload_n C 1 rfl rfl dX12_isThere_23 ?_
  refine jr_iadd C dX12_isThere_24 ?_
  refine jr_zald C oS_19.1 oS_19.2.1 oS_19.2.2 dX12_isThere_25 ?_
  refine jr_if_eq C (tgt := 33) dX12_isThere_26 (by decide) (fun h3 => ?_) (fun h3 => ?_)
  · refine jo_pos h3 ?_
    refine jr_iconst C ic_0 dX12_isThere_33 ?_
    exact jr_end (fun h => hr 0 h _ _ _ bN0 dX12_isThere_34)
  refine jo_neg h3 ?_
  refine jr_iconst C ic_1 dX12_isThere_29 ?_
  refine jr_goto C (tgt := 34) dX12_isThere_30 (by decide) ?_
  exact jr_end (fun h => hr 1 h _ _ _ bN1 dX12_isThere_34)
set_option maxRecDepth 100000 in
theorem c_Mo_isThere (l : Launch)  (v1 : Int32) (s : St) {q : Int32} (h : f_Mo_isThere v1 s = some q) : CT SM l yX12_isThere cX12_isThere 2 (some .boolean) 0 0 (fun a => [.ref (a 0), .int v1]) s s (fun _ => some (.int q)) :=
  ct_Z okX_M (by decide) (fun _ => Nat.le_of_ble_eq_true rfl) (fun G hl hR hL C hr => t_Mo_isThere G hR hL C (Acc := fun v => v = q)  v1 s (fun v hv => by rw [hv]; exact hr) ⟨_, h, rfl⟩)
noncomputable def f_Mo_up8 (v0 : Int32) : Int32 :=
  ((v0 + 7) &&& (-8))
set_option maxHeartbeats 4000000 in
set_option maxRecDepth 100000 in
theorem t_Mo_up8 (G : GG) (hR : gR G = rmx 0 0) (hL : gL G = 1) (C : Cx SM G cX12_up8 RX12) {Acc : Int32 → Prop}  (v0 : Int32) (s : St) (hr : ∀ v : Int32, Acc v → RtI SM G cX12_up8 v s) : JJ SM G Acc (some (f_Mo_up8 v0)) 0 [(0, .int v0)] [] s := by
  unfold f_Mo_up8
  refine jr_iload_n C 0 rfl rfl dX12_up8_0 ?_
  refine jr_bipush C bp_7 dX12_up8_1 ?_
  refine jr_iadd C dX12_up8_3 ?_
  refine jr_bipush C bp_m8 dX12_up8_4 ?_
  refine jr_iand C dX12_up8_6 ?_
  exact jr_end (fun h => hr ((v0 + 7) &&& (-8)) h _ _ dX12_up8_7)
set_option maxRecDepth 100000 in
theorem c_Mo_up8 (l : Launch)  (v0 : Int32) (s : St) : CT SM l yX12_up8 cX12_up8 1 (some .int) 0 0 (fun a => [.int v0]) s s (fun _ => some (.int (f_Mo_up8 v0))) :=
  ct_I okX_M (by decide) (fun _ => Nat.le_of_ble_eq_true rfl) (fun G hl hR hL C hr => t_Mo_up8 G hR hL C (Acc := fun v => v = (f_Mo_up8 v0))  v0 s (fun v hv => by rw [hv]; exact hr) ⟨_, rfl, rfl⟩)
noncomputable def f_Mo_blockAt_J71_1 (v1 : Int32) (v2 : Int32) (s : St) : Option (Int32 ⊕ (Int32 ⊕ Int32)) :=
  some (.inl (v2 + (-1)))
set_option maxHeartbeats 4000000 in
set_option maxRecDepth 100000 in
theorem t_Mo_blockAt_J71_1 (G : GG) (hR : gR G = rmx 1 20) (hL : gL G = 4) (C : Cx SM G cX12_blockAt RX12) {Acc : (Int32 ⊕ (Int32 ⊕ Int32)) → Prop}  (v1 : Int32) (v2 : Int32) (s : St) (hb1 : ∀ (a2 : Int32), Acc (.inl a2) → KK SM G 10 [(0, .ref (ad G 0)), (1, .int v1), (2, .int a2)] [] s) (hx1 : ∀ (a2 : Int32), Acc (.inr (.inl a2)) → KK SM G 77 [(0, .ref (ad G 0)), (1, .int v1), (2, .int a2)] [] s) (hr : ∀ v : Int32, Acc (.inr (.inr v)) → RtI SM G cX12_blockAt v s) : JJ SM G Acc (f_Mo_blockAt_J71_1 v1 v2 s) 71 [(0, .ref (ad G 0)), (1, .int v1), (2, .int v2)] [] s := by
  unfold f_Mo_blockAt_J71_1
  refine jr_iinc C 2 rfl ii_m1 (lv' := [(2, .int (v2 + (-1))), (0, .ref (ad G 0)), (1, .int v1)]) (ltL hL rfl) rfl dX12_blockAt_71 ?_
  refine jr_goto C (tgt := 10) dX12_blockAt_74 (by decide) ?_
  refine jr_lv [1, 2, 0] rfl ?_
  exact jr_end (fun h => hb1 (v2 + (-1)) h)
noncomputable def f_Mo_blockAt_L10 (v1 : Int32) (v2 : Int32) (s : St) : Option (Int32 ⊕ (Int32 ⊕ Int32)) :=
  if v2 ≤ 0 then
  some (.inr (.inl v2))
  else
  lt ((101 * (s.1 0 28)) + v2) fun x3 =>
  gd x3 202 <|
  if (s.1 30 (x3 : Int32).toNatClampNeg) ≤ 0 then
  f_Mo_blockAt_J71_1 v1 v2 s
  else
  gd x3 202 <|
  if v1 < ((s.1 28 (x3 : Int32).toNatClampNeg) - 8) then
  f_Mo_blockAt_J71_1 v1 v2 s
  else
  gd x3 202 <|
  gd x3 202 <|
  if ((f_Mo_up8 ((s.1 28 (x3 : Int32).toNatClampNeg) + (s.1 29 (x3 : Int32).toNatClampNeg))) + 8) ≤ v1 then
  f_Mo_blockAt_J71_1 v1 v2 s
  else
  some (.inr (.inr v2))
set_option maxHeartbeats 4000000 in
set_option maxRecDepth 100000 in
theorem t_Mo_blockAt_L10 (G : GG) (hR : gR G = rmx 1 20) (hL : gL G = 4) (C : Cx SM G cX12_blockAt RX12) {Acc : (Int32 ⊕ (Int32 ⊕ Int32)) → Prop}  (v1 : Int32) (v2 : Int32) (s : St) (hb1 : ∀ (a2 : Int32), Acc (.inl a2) → KK SM G 10 [(0, .ref (ad G 0)), (1, .int v1), (2, .int a2)] [] s) (hx1 : ∀ (a2 : Int32), Acc (.inr (.inl a2)) → KK SM G 77 [(0, .ref (ad G 0)), (1, .int v1), (2, .int a2)] [] s) (hr : ∀ v : Int32, Acc (.inr (.inr v)) → RtI SM G cX12_blockAt v s) : JJ SM G Acc (f_Mo_blockAt_L10 v1 v2 s) 10 [(0, .ref (ad G 0)), (1, .int v1), (2, .int v2)] [] s := by
  unfold f_Mo_blockAt_L10
  refine jr_iload_n C 2 rfl rfl dX12_blockAt_10 ?_
  refine jr_if_le C (tgt := 77) dX12_blockAt_11 (by decide) (fun h2 => ?_) (fun h2 => ?_)
  · refine jo_pos h2 ?_
    exact jr_end (fun h => hx1 v2 h)
  refine jo_neg h2 ?_
  refine jr_bipush C bp_101 dX12_blockAt_14 ?_
  refine jr_aload_n C 0 rfl rfl dX12_blockAt_16 ?_
  refine jr_getI C FX_10 28 oS_0.1 oS_0.2 ff_10_28.1 ff_10_28.2 fl_X12_394 dX12_blockAt_17 ?_
  refine jr_imul C dX12_blockAt_20 ?_
  refine jr_iload_n C 2 rfl rfl dX12_blockAt_21 ?_
  refine jr_iadd C dX12_blockAt_22 ?_
  refine jr_ltI (fun x3 => ?_)
  refine jr_istore_n C (lv' := [(3, .int x3), (0, .ref (ad G 0)), (1, .int v1), (2, .int v2)]) (ltL hL rfl) rfl rfl dX12_blockAt_23 ?_
  refine jr_aload_n C 1 rfl rfl dX12_blockAt_24 ?_
  refine jr_getR C FX_10 47 oS_0.1 oS_0.2 ff_10_47.1 ff_10_47.2 rfl fl_X12_106 dX12_blockAt_25 ?_
  refine jr_iload_n C 0 rfl rfl dX12_blockAt_28 ?_
  refine jr_iald C oS_30.1 oS_30.2.1 oS_30.2.2 dX12_blockAt_29 ?_
  refine jr_if_le C (tgt := 71) dX12_blockAt_30 (by decide) (fun h4 => ?_) (fun h4 => ?_)
  · refine jo_pos h4 ?_
    refine jr_lv [1, 2, 3] rfl ?_
    exact t_Mo_blockAt_J71_1 G hR hL C  v1 v2 s hb1 hx1 hr
  refine jo_neg h4 ?_
  refine jr_iload_n C 2 rfl rfl dX12_blockAt_33 ?_
  refine jr_aload_n C 1 rfl rfl dX12_blockAt_34 ?_
  refine jr_getR C FX_10 45 oS_0.1 oS_0.2 ff_10_45.1 ff_10_45.2 rfl fl_X12_100 dX12_blockAt_35 ?_
  refine jr_iload_n C 0 rfl rfl dX12_blockAt_38 ?_
  refine jr_iald C oS_28.1 oS_28.2.1 oS_28.2.2 dX12_blockAt_39 ?_
  refine jr_bipush C bp_8 dX12_blockAt_40 ?_
  refine jr_isub C dX12_blockAt_42 ?_
  refine jr_icmp_lt C (tgt := 71) dX12_blockAt_43 (by decide) (fun h5 => ?_) (fun h5 => ?_)
  · refine jo_pos h5 ?_
    refine jr_lv [1, 2, 3] rfl ?_
    exact t_Mo_blockAt_J71_1 G hR hL C  v1 v2 s hb1 hx1 hr
  refine jo_neg h5 ?_
  refine jr_iload_n C 2 rfl rfl dX12_blockAt_46 ?_
  refine jr_aload_n C 1 rfl rfl dX12_blockAt_47 ?_
  refine jr_getR C FX_10 45 oS_0.1 oS_0.2 ff_10_45.1 ff_10_45.2 rfl fl_X12_100 dX12_blockAt_48 ?_
  refine jr_iload_n C 0 rfl rfl dX12_blockAt_51 ?_
  refine jr_iald C oS_28.1 oS_28.2.1 oS_28.2.2 dX12_blockAt_52 ?_
  refine jr_aload_n C 1 rfl rfl dX12_blockAt_53 ?_
  refine jr_getR C FX_10 46 oS_0.1 oS_0.2 ff_10_46.1 ff_10_46.2 rfl fl_X12_103 dX12_blockAt_54 ?_
  refine jr_iload_n C 0 rfl rfl dX12_blockAt_57 ?_
  refine jr_iald C oS_29.1 oS_29.2.1 oS_29.2.2 dX12_blockAt_58 ?_
  refine jr_iadd C dX12_blockAt_59 ?_
  refine jr_callSI C km_X12_477 (rk hR rfl) (c_Mo_up8 (gl G) ((s.1 28 (x3 : Int32).toNatClampNeg) + (s.1 29 (x3 : Int32).toNatClampNeg)) s) rfl rfl rfl (Nat.le_of_ble_eq_true rfl) dX12_blockAt_60 ?_
  refine jr_bipush C bp_8 dX12_blockAt_63 ?_
  refine jr_iadd C dX12_blockAt_65 ?_
  refine jr_icmp_ge C (tgt := 71) dX12_blockAt_66 (by decide) (fun h6 => ?_) (fun h6 => ?_)
  · refine jo_pos h6 ?_
    refine jr_lv [1, 2, 3] rfl ?_
    exact t_Mo_blockAt_J71_1 G hR hL C  v1 v2 s hb1 hx1 hr
  refine jo_neg h6 ?_
  refine jr_iload_n C 3 rfl rfl dX12_blockAt_69 ?_
  exact jr_end (fun h => hr v2 h _ _ dX12_blockAt_70)
noncomputable def f_Mo_blockAt (v1 : Int32) (s : St) : Option Int32 :=
  gd (s.1 0 28) 2 <|
  lt (s.1 34 ((s.1 0 28) : Int32).toNatClampNeg) fun x1 =>
  (wh (fun a : Int32 => f_Mo_blockAt_L10 v1 a s) x1).bind (Sum.elim (fun b7 =>
  some 0) some)
set_option maxHeartbeats 4000000 in
set_option maxRecDepth 100000 in
theorem t_Mo_blockAt (G : GG) (hR : gR G = rmx 1 20) (hL : gL G = 4) (C : Cx SM G cX12_blockAt RX12) {Acc : Int32 → Prop}  (v1 : Int32) (s : St) (hr : ∀ v : Int32, Acc v → RtI SM G cX12_blockAt v s) : JJ SM G Acc (f_Mo_blockAt v1 s) 0 [(0, .ref (ad G 0)), (1, .int v1)] [] s := by
  unfold f_Mo_blockAt
  refine jr_aload_n C 0 rfl rfl dX12_blockAt_0 ?_
  refine jr_getR C FX_10 51 oS_0.1 oS_0.2 ff_10_51.1 ff_10_51.2 rfl fl_X12_118 dX12_blockAt_1 ?_
  refine jr_aload_n C 0 rfl rfl dX12_blockAt_4 ?_
  refine jr_getI C FX_10 28 oS_0.1 oS_0.2 ff_10_28.1 ff_10_28.2 fl_X12_394 dX12_blockAt_5 ?_
  refine jr_iald C oS_34.1 oS_34.2.1 oS_34.2.2 dX12_blockAt_8 ?_
  refine jr_ltI (fun x1 => ?_)
  refine jr_istore_n C (lv' := [(2, .int x1), (0, .ref (ad G 0)), (1, .int v1)]) (ltL hL rfl) rfl rfl dX12_blockAt_9 ?_
  refine jr_lv [1, 2, 0] rfl ?_
  refine jr_loopE (pc := 10) (pcx := 77) (f := fun a : Int32 => f_Mo_blockAt_L10 v1 a s) (fun a : Int32 => [(0, .ref (ad G 0)), (1, .int v1), (2, .int a)]) (fun a : Int32 => s) x1 (fun a => t_Mo_blockAt_L10 G hR hL C  v1 a s (fun _ h => h) (fun _ h => h) hr) (fun b7 => ?_)
  refine jr_iconst C ic_0 dX12_blockAt_77 ?_
  exact jr_end (fun h => hr 0 h _ _ dX12_blockAt_78)
set_option maxRecDepth 100000 in
theorem c_Mo_blockAt (l : Launch)  (v1 : Int32) (s : St) {q : Int32} (h : f_Mo_blockAt v1 s = some q) : CT SM l yX12_blockAt cX12_blockAt 4 (some .int) 1 20 (fun a => [.ref (a 0), .int v1]) s s (fun _ => some (.int q)) :=
  ct_I okX_M (by decide) (fun _ => Nat.le_of_ble_eq_true rfl) (fun G hl hR hL C hr => t_Mo_blockAt G hR hL C (Acc := fun v => v = q)  v1 s (fun v hv => by rw [hv]; exact hr) ⟨_, h, rfl⟩)
noncomputable def f_Mo_areThere_L2 (v1 : Int32) (v2 : Int32) (v3 : Int32) (s : St) : Option (Int32 ⊕ (Int32 ⊕ (Int32 × St))) :=
  if v2 ≤ v3 then
  some (.inr (.inl v3))
  else
  (f_Mo_isThere (v1 + v3) s).bind fun q2 =>
  if q2 = 0 then
  ((f_Mo_blockAt (v1 + v3) s).bind fun q5 =>
  (f_Mo_told 6 q5 s).bind fun q7 =>
  some (.inr (.inr (0, q7))))
  else
  some (.inl (v3 + 1))
set_option maxHeartbeats 4000000 in
set_option maxRecDepth 100000 in
theorem t_Mo_areThere_L2 (G : GG) (hR : gR G = rmx 2 43) (hL : gL G = 4) (C : Cx SM G cX12_areThere RX12) {Acc : (Int32 ⊕ (Int32 ⊕ (Int32 × St))) → Prop}  (v1 : Int32) (v2 : Int32) (v3 : Int32) (s : St) (hb1 : ∀ (a3 : Int32), Acc (.inl a3) → KK SM G 2 [(0, .ref (ad G 0)), (1, .int v1), (2, .int v2), (3, .int a3)] [] s) (hx1 : ∀ (a3 : Int32), Acc (.inr (.inl a3)) → KK SM G 41 [(0, .ref (ad G 0)), (1, .int v1), (2, .int v2), (3, .int a3)] [] s) (hr : ∀ v : (Int32 × St), Acc (.inr (.inr v)) → RtZ SM G cX12_areThere v.1 v.2) : JJ SM G Acc (f_Mo_areThere_L2 v1 v2 v3 s) 2 [(0, .ref (ad G 0)), (1, .int v1), (2, .int v2), (3, .int v3)] [] s := by
  unfold f_Mo_areThere_L2
  refine jr_iload_n C 3 rfl rfl dX12_areThere_2 ?_
  refine jr_iload_n C 2 rfl rfl dX12_areThere_3 ?_
  refine jr_icmp_ge C (tgt := 41) dX12_areThere_4 (by decide) (fun h1 => ?_) (fun h1 => ?_)
  · refine jo_pos h1 ?_
    exact jr_end (fun h => hx1 v3 h)
  refine jo_neg h1 ?_
  refine jr_aload_n C 0 rfl rfl dX12_areThere_7 ?_
  refine jr_iload_n C 1 rfl rfl dX12_areThere_8 ?_
  refine jr_iload_n C 3 rfl rfl dX12_areThere_9 ?_
  refine jr_iadd C dX12_areThere_10 ?_
  refine jr_bind (fun q2 e3 => ?_)
  refine jr_callVI C FX_10 km_X12_480 oS_0.1 oS_0.2 (rk hR rfl) (c_Mo_isThere (gl G) (v1 + v3) s e3) rfl rfl rfl (Nat.le_of_ble_eq_true rfl) dX12_areThere_11 ?_
  refine jr_if_eq C (tgt := 20) dX12_areThere_14 (by decide) (fun h4 => ?_) (fun h4 => ?_)
  · refine jo_pos h4 ?_
    refine jr_aload_n C 0 rfl rfl dX12_areThere_20 ?_
    refine jr_bipush C bp_6 dX12_areThere_21 ?_
    refine jr_aload_n C 0 rfl rfl dX12_areThere_23 ?_
    refine jr_iload_n C 1 rfl rfl dX12_areThere_24 ?_
    refine jr_iload_n C 3 rfl rfl dX12_areThere_25 ?_
    refine jr_iadd C dX12_areThere_26 ?_
    refine jr_bind (fun q5 e6 => ?_)
    refine jr_callVI C FX_10 km_X12_483 oS_0.1 oS_0.2 (rk hR rfl) (c_Mo_blockAt (gl G) (v1 + v3) s e6) rfl rfl rfl (Nat.le_of_ble_eq_true rfl) dX12_areThere_27 ?_
    refine jr_bind (fun q7 e8 => ?_)
    refine jr_callVV C FX_10 km_X12_460 oS_0.1 oS_0.2 (rk hR rfl) (c_Mo_told (gl G) 6 q5 s e8) rfl rfl rfl (Nat.le_of_ble_eq_true rfl) dX12_areThere_30 ?_
    refine jr_iconst C ic_0 dX12_areThere_33 ?_
    exact jr_end (fun h => hr (0, q7) h _ _ _ bN0 dX12_areThere_34)
  refine jo_neg h4 ?_
  refine jr_goto C (tgt := 35) dX12_areThere_17 (by decide) ?_
  refine jr_iinc C 3 rfl ii_1 (lv' := [(3, .int (v3 + 1)), (0, .ref (ad G 0)), (1, .int v1), (2, .int v2)]) (ltL hL rfl) rfl dX12_areThere_35 ?_
  refine jr_goto C (tgt := 2) dX12_areThere_38 (by decide) ?_
  refine jr_lv [1, 2, 3, 0] rfl ?_
  exact jr_end (fun h => hb1 (v3 + 1) h)
noncomputable def f_Mo_areThere (v1 : Int32) (v2 : Int32) (s : St) : Option (Int32 × St) :=
  (wh (fun a : Int32 => f_Mo_areThere_L2 v1 v2 a s) 0).bind (Sum.elim (fun b9 =>
  some (1, s)) some)
set_option maxHeartbeats 4000000 in
set_option maxRecDepth 100000 in
theorem t_Mo_areThere (G : GG) (hR : gR G = rmx 2 43) (hL : gL G = 4) (C : Cx SM G cX12_areThere RX12) {Acc : (Int32 × St) → Prop}  (v1 : Int32) (v2 : Int32) (s : St) (hr : ∀ v : (Int32 × St), Acc v → RtZ SM G cX12_areThere v.1 v.2) : JJ SM G Acc (f_Mo_areThere v1 v2 s) 0 [(0, .ref (ad G 0)), (1, .int v1), (2, .int v2)] [] s := by
  unfold f_Mo_areThere
  refine jr_iconst C ic_0 dX12_areThere_0 ?_
  refine jr_istore_n C (lv' := [(3, .int 0), (0, .ref (ad G 0)), (1, .int v1), (2, .int v2)]) (ltL hL rfl) rfl rfl dX12_areThere_1 ?_
  refine jr_lv [1, 2, 3, 0] rfl ?_
  refine jr_loopE (pc := 2) (pcx := 41) (f := fun a : Int32 => f_Mo_areThere_L2 v1 v2 a s) (fun a : Int32 => [(0, .ref (ad G 0)), (1, .int v1), (2, .int v2), (3, .int a)]) (fun a : Int32 => s) 0 (fun a => t_Mo_areThere_L2 G hR hL C  v1 v2 a s (fun _ h => h) (fun _ h => h) hr) (fun b9 => ?_)
  refine jr_iconst C ic_1 dX12_areThere_41 ?_
  exact jr_end (fun h => hr (1, s) h _ _ _ bN1 dX12_areThere_42)
set_option maxRecDepth 100000 in
theorem c_Mo_areThere (l : Launch)  (v1 : Int32) (v2 : Int32) (s : St) {q : (Int32 × St)} (h : f_Mo_areThere v1 v2 s = some q) : CT SM l yX12_areThere cX12_areThere 4 (some .boolean) 2 43 (fun a => [.ref (a 0), .int v1, .int v2]) s q.2 (fun _ => some (.int q.1)) :=
  ct_Z okX_M (by decide) (fun _ => Nat.le_of_ble_eq_true rfl) (fun G hl hR hL C hr => t_Mo_areThere G hR hL C (Acc := fun v => v = q)  v1 v2 s (fun v hv => by rw [hv]; exact hr) ⟨_, h, rfl⟩)
