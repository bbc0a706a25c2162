noncomputable def f_Mo_feed_J71_1 (v1 : Int32) (v2 : Int32) (v3 : Int32) (v4 : Int32) (v5 : Int32) (v6 : Int32) (w0 : Int32) (s : St) : Option ((Int32 × St) ⊕ (Int32 × St)) :=
  gd ((s.1 0 1) + v6) 4000 <|
  lt (uI s 1 (((s.1 0 1) + v6) : Int32).toNatClampNeg (vp_nar .byte (((w0 >>> ((24 - (8 * (v6 &&& 3))) &&& 31)) : Int32).toInt8.toInt32))) fun s7 =>
  some (.inl ((v6 + 1), s7))
set_option maxHeartbeats 4000000 in
set_option maxRecDepth 100000 in
theorem t_Mo_feed_J71_1 (G : GG) (hR : gR G = rmx 0 0) (hL : gL G = 8) (C : Cx SM G cX12_feed RX12) {Acc : ((Int32 × St) ⊕ (Int32 × St)) → Prop}  (v1 : Int32) (v2 : Int32) (v3 : Int32) (v4 : Int32) (v5 : Int32) (v6 : Int32) (w0 : Int32) (s : St) (hb1 : ∀ (a6 : Int32) (t : St), Acc (.inl (a6, t)) → KK SM G 18 [(0, .ref (ad G 0)), (1, .int v1), (2, .int v2), (3, .int v3), (4, .int v4), (5, .int v5), (6, .int a6)] [] t) (hx1 : ∀ (a6 : Int32) (t : St), Acc (.inr (a6, t)) → KK SM G 105 [(0, .ref (ad G 0)), (1, .int v1), (2, .int v2), (3, .int v3), (4, .int v4), (5, .int v5), (6, .int a6)] [] t) : JJ SM G Acc (f_Mo_feed_J71_1 v1 v2 v3 v4 v5 v6 w0 s) 71 [(0, .ref (ad G 0)), (1, .int v1), (2, .int v2), (3, .int v3), (4, .int v4), (5, .int v5), (6, .int v6)] [.int w0] s := by
  unfold f_Mo_feed_J71_1
  refine jr_istore C (lv' := [(7, .int w0), (0, .ref (ad G 0)), (1, .int v1), (2, .int v2), (3, .int v3), (4, .int v4), (5, .int v5), (6, .int v6)]) (ltL hL rfl) rfl dX12_feed_71 ?_
  refine jr_aload_n C 1 rfl rfl dX12_feed_73 ?_
  refine jr_getR C FX_10 0 oS_0.1 oS_0.2 ff_10_0.1 ff_10_0.2 rfl fl_X12_7 dX12_feed_74 ?_
  refine jr_aload_n C 1 rfl rfl dX12_feed_77 ?_
  refine jr_getI C FX_10 1 oS_0.1 oS_0.2 ff_10_1.1 ff_10_1.2 fl_X12_368 dX12_feed_78 ?_
  refine jr_iload C 7 rfl dX12_feed_81 ?_
  refine jr_iadd C dX12_feed_83 ?_
  refine jr_iload C 0 rfl dX12_feed_84 ?_
  refine jr_bipush C bp_24 dX12_feed_86 ?_
  refine jr_bipush C bp_8 dX12_feed_88 ?_
  refine jr_iload C 7 rfl dX12_feed_90 ?_
  refine jr_iconst C ic_3 dX12_feed_92 ?_
  refine jr_iand C dX12_feed_93 ?_
  refine jr_imul C dX12_feed_94 ?_
  refine jr_isub C dX12_feed_95 ?_
  refine jr_ishr C dX12_feed_96 ?_
  refine jr_i2b C dX12_feed_97 ?_
  refine jr_bast C oS_1.1 oS_1.2.1 oS_1.2.2 dX12_feed_98 (jr_ltS fun s7 => ?_)
  refine jr_iinc C 7 rfl ii_1 (lv' := [(6, .int (v6 + 1)), (7, .int w0), (0, .ref (ad G 0)), (1, .int v1), (2, .int v2), (3, .int v3), (4, .int v4), (5, .int v5)]) (ltL hL rfl) rfl dX12_feed_99 ?_
  refine jr_goto C (tgt := 18) dX12_feed_102 (by decide) ?_
  refine jr_lv [2, 3, 4, 5, 6, 7, 0] rfl ?_
  exact jr_end (fun h => hb1 (v6 + 1) s7 h)
noncomputable def f_Mo_feed_L18 (v1 : Int32) (v2 : Int32) (v3 : Int32) (v4 : Int32) (v5 : Int32) (v6 : Int32) (s : St) : Option ((Int32 × St) ⊕ (Int32 × St)) :=
  if 20 ≤ v6 then
  some (.inr (v6, s))
  else
  if 4 ≤ v6 then
  (if 8 ≤ v6 then
  (if 12 ≤ v6 then
  (if 16 ≤ v6 then
  f_Mo_feed_J71_1 v1 v2 v3 v4 v5 v6 v5 s
  else
  f_Mo_feed_J71_1 v1 v2 v3 v4 v5 v6 v4 s)
  else
  f_Mo_feed_J71_1 v1 v2 v3 v4 v5 v6 v3 s)
  else
  f_Mo_feed_J71_1 v1 v2 v3 v4 v5 v6 v2 s)
  else
  f_Mo_feed_J71_1 v1 v2 v3 v4 v5 v6 v1 s
set_option maxHeartbeats 4000000 in
set_option maxRecDepth 100000 in
theorem t_Mo_feed_L18 (G : GG) (hR : gR G = rmx 0 0) (hL : gL G = 8) (C : Cx SM G cX12_feed RX12) {Acc : ((Int32 × St) ⊕ (Int32 × St)) → Prop}  (v1 : Int32) (v2 : Int32) (v3 : Int32) (v4 : Int32) (v5 : Int32) (v6 : Int32) (s : St) (hb1 : ∀ (a6 : Int32) (t : St), Acc (.inl (a6, t)) → KK SM G 18 [(0, .ref (ad G 0)), (1, .int v1), (2, .int v2), (3, .int v3), (4, .int v4), (5, .int v5), (6, .int a6)] [] t) (hx1 : ∀ (a6 : Int32) (t : St), Acc (.inr (a6, t)) → KK SM G 105 [(0, .ref (ad G 0)), (1, .int v1), (2, .int v2), (3, .int v3), (4, .int v4), (5, .int v5), (6, .int a6)] [] t) : JJ SM G Acc (f_Mo_feed_L18 v1 v2 v3 v4 v5 v6 s) 18 [(0, .ref (ad G 0)), (1, .int v1), (2, .int v2), (3, .int v3), (4, .int v4), (5, .int v5), (6, .int v6)] [] s := by
  unfold f_Mo_feed_L18
  refine jr_iload C 6 rfl dX12_feed_18 ?_
  refine jr_bipush C bp_20 dX12_feed_20 ?_
  refine jr_icmp_ge C (tgt := 105) dX12_feed_22 (by decide) (fun h2 => ?_) (fun h2 => ?_)
  · refine jo_pos h2 ?_
    exact jr_end (fun h => hx1 v6 s h)
  refine jo_neg h2 ?_
  refine jr_iload C 6 rfl dX12_feed_25 ?_
  refine jr_iconst C ic_4 dX12_feed_27 ?_
  refine jr_icmp_ge C (tgt := 35) dX12_feed_28 (by decide) (fun h3 => ?_) (fun h3 => ?_)
  · refine jo_pos h3 ?_
    refine jr_iload C 6 rfl dX12_feed_35 ?_
    refine jr_bipush C bp_8 dX12_feed_37 ?_
    refine jr_icmp_ge C (tgt := 46) dX12_feed_39 (by decide) (fun h4 => ?_) (fun h4 => ?_)
    · refine jo_pos h4 ?_
      refine jr_iload C 6 rfl dX12_feed_46 ?_
      refine jr_bipush C bp_12 dX12_feed_48 ?_
      refine jr_icmp_ge C (tgt := 57) dX12_feed_50 (by decide) (fun h5 => ?_) (fun h5 => ?_)
      · refine jo_pos h5 ?_
        refine jr_iload C 6 rfl dX12_feed_57 ?_
        refine jr_bipush C bp_16 dX12_feed_59 ?_
        refine jr_icmp_ge C (tgt := 69) dX12_feed_61 (by decide) (fun h6 => ?_) (fun h6 => ?_)
        · refine jo_pos h6 ?_
          refine jr_iload C 5 rfl dX12_feed_69 ?_
          exact t_Mo_feed_J71_1 G hR hL C  v1 v2 v3 v4 v5 v6 v5 s hb1 hx1
        refine jo_neg h6 ?_
        refine jr_iload C 4 rfl dX12_feed_64 ?_
        refine jr_goto C (tgt := 71) dX12_feed_66 (by decide) ?_
        exact t_Mo_feed_J71_1 G hR hL C  v1 v2 v3 v4 v5 v6 v4 s hb1 hx1
      refine jo_neg h5 ?_
      refine jr_iload_n C 3 rfl rfl dX12_feed_53 ?_
      refine jr_goto C (tgt := 71) dX12_feed_54 (by decide) ?_
      exact t_Mo_feed_J71_1 G hR hL C  v1 v2 v3 v4 v5 v6 v3 s hb1 hx1
    refine jo_neg h4 ?_
    refine jr_iload_n C 2 rfl rfl dX12_feed_42 ?_
    refine jr_goto C (tgt := 71) dX12_feed_43 (by decide) ?_
    exact t_Mo_feed_J71_1 G hR hL C  v1 v2 v3 v4 v5 v6 v2 s hb1 hx1
  refine jo_neg h3 ?_
  refine jr_iload_n C 1 rfl rfl dX12_feed_31 ?_
  refine jr_goto C (tgt := 71) dX12_feed_32 (by decide) ?_
  exact t_Mo_feed_J71_1 G hR hL C  v1 v2 v3 v4 v5 v6 v1 s hb1 hx1
noncomputable def f_Mo_feed (v1 : Int32) (v2 : Int32) (v3 : Int32) (v4 : Int32) (v5 : Int32) (s : St) : Option (Int32 × St) :=
  if ((s.1 0 1) + 20) ≤ 4000 then
  ((wh (fun a : (Int32 × St) => f_Mo_feed_L18 v1 v2 v3 v4 v5 a.1 a.2) (0, s)).bind (fun b8 =>
  lt (uI (b8.2) 0 1 ((b8.2.1 0 1) + 20)) fun s9 =>
  some ((s9.1 0 1), s9)))
  else
  some ((-1), s)
set_option maxHeartbeats 4000000 in
set_option maxRecDepth 100000 in
theorem t_Mo_feed (G : GG) (hR : gR G = rmx 0 0) (hL : gL G = 8) (C : Cx SM G cX12_feed RX12) {Acc : (Int32 × St) → Prop}  (v1 : Int32) (v2 : Int32) (v3 : Int32) (v4 : Int32) (v5 : Int32) (s : St) (hr : ∀ v : (Int32 × St), Acc v → RtI SM G cX12_feed v.1 v.2) : JJ SM G Acc (f_Mo_feed v1 v2 v3 v4 v5 s) 0 [(0, .ref (ad G 0)), (1, .int v1), (2, .int v2), (3, .int v3), (4, .int v4), (5, .int v5)] [] s := by
  unfold f_Mo_feed
  refine jr_aload_n C 0 rfl rfl dX12_feed_0 ?_
  refine jr_getI C FX_10 1 oS_0.1 oS_0.2 ff_10_1.1 ff_10_1.2 fl_X12_368 dX12_feed_1 ?_
  refine jr_bipush C bp_20 dX12_feed_4 ?_
  refine jr_iadd C dX12_feed_6 ?_
  refine jr_sipush C sp_4000 dX12_feed_7 ?_
  refine jr_icmp_le C (tgt := 15) dX12_feed_10 (by decide) (fun h1 => ?_) (fun h1 => ?_)
  · refine jo_pos h1 ?_
    refine jr_iconst C ic_0 dX12_feed_15 ?_
    refine jr_istore C (lv' := [(6, .int 0), (0, .ref (ad G 0)), (1, .int v1), (2, .int v2), (3, .int v3), (4, .int v4), (5, .int v5)]) (ltL hL rfl) rfl dX12_feed_16 ?_
    refine jr_lv [1, 2, 3, 4, 5, 6, 0] rfl ?_
    refine jr_loopB (pc := 18) (pcx := 105) (f := fun a : (Int32 × St) => f_Mo_feed_L18 v1 v2 v3 v4 v5 a.1 a.2) (fun a : (Int32 × St) => [(0, .ref (ad G 0)), (1, .int v1), (2, .int v2), (3, .int v3), (4, .int v4), (5, .int v5), (6, .int (a.1))]) (fun a : (Int32 × St) => a.2) (0, s) (fun a => t_Mo_feed_L18 G hR hL C  v1 v2 v3 v4 v5 a.1 a.2 (fun _ _ h => h) (fun _ _ h => h)) (fun b8 => ?_)
    refine jr_aload_n C 0 rfl rfl dX12_feed_105 ?_
    refine jr_dup C rfl dX12_feed_106 ?_
    refine jr_getI C FX_10 1 oS_0.1 oS_0.2 ff_10_1.1 ff_10_1.2 fl_X12_368 dX12_feed_107 ?_
    refine jr_bipush C bp_20 dX12_feed_110 ?_
    refine jr_iadd C dX12_feed_112 ?_
    refine jr_putI C FX_10 1 oS_0.1 oS_0.2 ff_10_1.1 ff_10_1.2 rfl rfl fl_X12_368 dX12_feed_113 (jr_ltS fun s9 => ?_)
    refine jr_aload_n C 0 rfl rfl dX12_feed_116 ?_
    refine jr_getI C FX_10 1 oS_0.1 oS_0.2 ff_10_1.1 ff_10_1.2 fl_X12_368 dX12_feed_117 ?_
    exact jr_end (fun h => hr ((s9.1 0 1), s9) h _ _ dX12_feed_120)
  refine jo_neg h1 ?_
  refine jr_iconst C ic_m1 dX12_feed_13 ?_
  exact jr_end (fun h => hr ((-1), s) h _ _ dX12_feed_14)
set_option maxRecDepth 100000 in
theorem c_Mo_feed (l : Launch)  (v1 : Int32) (v2 : Int32) (v3 : Int32) (v4 : Int32) (v5 : Int32) (s : St) {q : (Int32 × St)} (h : f_Mo_feed v1 v2 v3 v4 v5 s = some q) : CT SM l yX12_feed cX12_feed 8 (some .int) 0 0 (fun a => [.ref (a 0), .int v1, .int v2, .int v3, .int v4, .int v5]) s q.2 (fun _ => some (.int q.1)) :=
  ct_I okX_M (by decide) (fun _ => Nat.le_of_ble_eq_true rfl) (fun G hl hR hL C hr => t_Mo_feed G hR hL C (Acc := fun v => v = q)  v1 v2 v3 v4 v5 s (fun v hv => by rw [hv]; exact hr) ⟨_, h, rfl⟩)
noncomputable def f_Mo_end (v1 : Int32) (s : St) : Option (Int32 × St) :=
  if v1 < 0 then
  some ((-1), s)
  else
  if v1 ≤ (s.1 0 1) then
  (lt (uI s 0 1 v1) fun s3 =>
  some (v1, s3))
  else
  some ((-1), s)
set_option maxHeartbeats 4000000 in
set_option maxRecDepth 100000 in
theorem t_Mo_end (G : GG) (hR : gR G = rmx 0 0) (hL : gL G = 2) (C : Cx SM G cX12_end RX12) {Acc : (Int32 × St) → Prop}  (v1 : Int32) (s : St) (hr : ∀ v : (Int32 × St), Acc v → RtI SM G cX12_end v.1 v.2) : JJ SM G Acc (f_Mo_end v1 s) 0 [(0, .ref (ad G 0)), (1, .int v1)] [] s := by
  unfold f_Mo_end
  refine jr_iload_n C 1 rfl rfl dX12_end_0 ?_
  refine jr_if_lt C (tgt := 12) dX12_end_1 (by decide) (fun h1 => ?_) (fun h1 => ?_)
  · refine jo_pos h1 ?_
    refine jr_iconst C ic_m1 dX12_end_12 ?_
    exact jr_end (fun h => hr ((-1), s) h _ _ dX12_end_13)
  refine jo_neg h1 ?_
  refine jr_iload_n C 1 rfl rfl dX12_end_4 ?_
  refine jr_aload_n C 0 rfl rfl dX12_end_5 ?_
  refine jr_getI C FX_10 1 oS_0.1 oS_0.2 ff_10_1.1 ff_10_1.2 fl_X12_368 dX12_end_6 ?_
  refine jr_icmp_le C (tgt := 14) dX12_end_9 (by decide) (fun h2 => ?_) (fun h2 => ?_)
  · refine jo_pos h2 ?_
    refine jr_aload_n C 0 rfl rfl dX12_end_14 ?_
    refine jr_iload_n C 1 rfl rfl dX12_end_15 ?_
    refine jr_putI C FX_10 1 oS_0.1 oS_0.2 ff_10_1.1 ff_10_1.2 rfl rfl fl_X12_368 dX12_end_16 (jr_ltS fun s3 => ?_)
    refine jr_iload_n C 1 rfl rfl dX12_end_19 ?_
    exact jr_end (fun h => hr (v1, s3) h _ _ dX12_end_20)
  refine jo_neg h2 ?_
  refine jr_iconst C ic_m1 dX12_end_12 ?_
  exact jr_end (fun h => hr ((-1), s) h _ _ dX12_end_13)
set_option maxRecDepth 100000 in
theorem c_Mo_end (l : Launch)  (v1 : Int32) (s : St) {q : (Int32 × St)} (h : f_Mo_end v1 s = some q) : CT SM l yX12_end cX12_end 2 (some .int) 0 0 (fun a => [.ref (a 0), .int v1]) s q.2 (fun _ => some (.int q.1)) :=
  ct_I okX_M (by decide) (fun _ => Nat.le_of_ble_eq_true rfl) (fun G hl hR hL C hr => t_Mo_end G hR hL C (Acc := fun v => v = q)  v1 s (fun v hv => by rw [hv]; exact hr) ⟨_, h, rfl⟩)
noncomputable def f_Mo_begin (v1 : Int32) (v2 : Int32) (s : St) : Option (Int32 × St) :=
  if (s.1 0 19) = 0 then
  some (0, s)
  else
  if v2 < 0 then
  some (0, s)
  else
  if v2 ≤ 1 then
  ((f_Mo_start 0 v1 v2 s).bind fun q4 =>
  some (1, q4))
  else
  some (0, s)
set_option maxHeartbeats 4000000 in
set_option maxRecDepth 100000 in
theorem t_Mo_begin (G : GG) (hR : gR G = rmx 2 45) (hL : gL G = 3) (C : Cx SM G cX12_begin RX12) {Acc : (Int32 × St) → Prop}  (v1 : Int32) (v2 : Int32) (s : St) (hr : ∀ v : (Int32 × St), Acc v → RtZ SM G cX12_begin v.1 v.2) : JJ SM G Acc (f_Mo_begin v1 v2 s) 0 [(0, .ref (ad G 0)), (1, .int v1), (2, .int v2)] [] s := by
  unfold f_Mo_begin
  refine jr_aload_n C 0 rfl rfl dX12_begin_0 ?_
  refine jr_getI C FX_10 19 oS_0.1 oS_0.2 ff_10_19.1 ff_10_19.2 fl_X12_380 dX12_begin_1 ?_
  refine jr_if_eq C (tgt := 16) dX12_begin_4 (by decide) (fun h1 => ?_) (fun h1 => ?_)
  · refine jo_pos h1 ?_
    refine jr_iconst C ic_0 dX12_begin_16 ?_
    exact jr_end (fun h => hr (0, s) h _ _ _ bN0 dX12_begin_17)
  refine jo_neg h1 ?_
  refine jr_iload_n C 2 rfl rfl dX12_begin_7 ?_
  refine jr_if_lt C (tgt := 16) dX12_begin_8 (by decide) (fun h2 => ?_) (fun h2 => ?_)
  · refine jo_pos h2 ?_
    refine jr_iconst C ic_0 dX12_begin_16 ?_
    exact jr_end (fun h => hr (0, s) h _ _ _ bN0 dX12_begin_17)
  refine jo_neg h2 ?_
  refine jr_iload_n C 2 rfl rfl dX12_begin_11 ?_
  refine jr_iconst C ic_1 dX12_begin_12 ?_
  refine jr_icmp_le C (tgt := 18) dX12_begin_13 (by decide) (fun h3 => ?_) (fun h3 => ?_)
  · refine jo_pos h3 ?_
    refine jr_aload_n C 0 rfl rfl dX12_begin_18 ?_
    refine jr_iconst C ic_0 dX12_begin_19 ?_
    refine jr_iload_n C 1 rfl rfl dX12_begin_20 ?_
    refine jr_iload_n C 2 rfl rfl dX12_begin_21 ?_
    refine jr_bind (fun q4 e5 => ?_)
    refine jr_callVV C FX_10 km_X12_390 oS_0.1 oS_0.2 (rk hR rfl) (c_Mo_start (gl G) 0 v1 v2 s e5) rfl rfl rfl (Nat.le_of_ble_eq_true rfl) dX12_begin_22 ?_
    refine jr_iconst C ic_1 dX12_begin_25 ?_
    exact jr_end (fun h => hr (1, q4) h _ _ _ bN1 dX12_begin_26)
  refine jo_neg h3 ?_
  refine jr_iconst C ic_0 dX12_begin_16 ?_
  exact jr_end (fun h => hr (0, s) h _ _ _ bN0 dX12_begin_17)
set_option maxRecDepth 100000 in
theorem c_Mo_begin (l : Launch)  (v1 : Int32) (v2 : Int32) (s : St) {q : (Int32 × St)} (h : f_Mo_begin v1 v2 s = some q) : CT SM l yX12_begin cX12_begin 3 (some .boolean) 2 45 (fun a => [.ref (a 0), .int v1, .int v2]) s q.2 (fun _ => some (.int q.1)) :=
  ct_Z okX_M (by decide) (fun _ => Nat.le_of_ble_eq_true rfl) (fun G hl hR hL C hr => t_Mo_begin G hR hL C (Acc := fun v => v = q)  v1 v2 s (fun v hv => by rw [hv]; exact hr) ⟨_, h, rfl⟩)
noncomputable def f_Mo_input (v1 : Int32) (s : St) : Option (Int32 × St) :=
  if (s.1 0 19) = 0 then
  some ((-1), s)
  else
  if (s.1 0 55) = 100 then
  some ((-1), s)
  else
  gd (s.1 0 55) 100 <|
  lt (uI s 36 ((s.1 0 55) : Int32).toNatClampNeg v1) fun s3 =>
  lt (uI s3 0 55 ((s3.1 0 55) + 1)) fun s4 =>
  some ((s4.1 0 55), s4)
set_option maxHeartbeats 4000000 in
set_option maxRecDepth 100000 in
theorem t_Mo_input (G : GG) (hR : gR G = rmx 0 0) (hL : gL G = 2) (C : Cx SM G cX12_input RX12) {Acc : (Int32 × St) → Prop}  (v1 : Int32) (s : St) (hr : ∀ v : (Int32 × St), Acc v → RtI SM G cX12_input v.1 v.2) : JJ SM G Acc (f_Mo_input v1 s) 0 [(0, .ref (ad G 0)), (1, .int v1)] [] s := by
  unfold f_Mo_input
  refine jr_aload_n C 0 rfl rfl dX12_input_0 ?_
  refine jr_getI C FX_10 19 oS_0.1 oS_0.2 ff_10_19.1 ff_10_19.2 fl_X12_380 dX12_input_1 ?_
  refine jr_if_eq C (tgt := 16) dX12_input_4 (by decide) (fun h1 => ?_) (fun h1 => ?_)
  · refine jo_pos h1 ?_
    refine jr_iconst C ic_m1 dX12_input_16 ?_
    exact jr_end (fun h => hr ((-1), s) h _ _ dX12_input_17)
  refine jo_neg h1 ?_
  refine jr_aload_n C 0 rfl rfl dX12_input_7 ?_
  refine jr_getI C FX_10 55 oS_0.1 oS_0.2 ff_10_55.1 ff_10_55.2 fl_X12_384 dX12_input_8 ?_
  refine jr_bipush C bp_100 dX12_input_11 ?_
  refine jr_icmp_ne C (tgt := 18) dX12_input_13 (by decide) (fun h2 => ?_) (fun h2 => ?_)
  · refine jo_neg h2 ?_
    refine jr_aload_n C 0 rfl rfl dX12_input_18 ?_
    refine jr_getR C FX_10 53 oS_0.1 oS_0.2 ff_10_53.1 ff_10_53.2 rfl fl_X12_124 dX12_input_19 ?_
    refine jr_aload_n C 0 rfl rfl dX12_input_22 ?_
    refine jr_getI C FX_10 55 oS_0.1 oS_0.2 ff_10_55.1 ff_10_55.2 fl_X12_384 dX12_input_23 ?_
    refine jr_iload_n C 1 rfl rfl dX12_input_26 ?_
    refine jr_iast C oS_36.1 oS_36.2.1 oS_36.2.2 dX12_input_27 (jr_ltS fun s3 => ?_)
    refine jr_aload_n C 0 rfl rfl dX12_input_28 ?_
    refine jr_dup C rfl dX12_input_29 ?_
    refine jr_getI C FX_10 55 oS_0.1 oS_0.2 ff_10_55.1 ff_10_55.2 fl_X12_384 dX12_input_30 ?_
    refine jr_iconst C ic_1 dX12_input_33 ?_
    refine jr_iadd C dX12_input_34 ?_
    refine jr_putI C FX_10 55 oS_0.1 oS_0.2 ff_10_55.1 ff_10_55.2 rfl rfl fl_X12_384 dX12_input_35 (jr_ltS fun s4 => ?_)
    refine jr_aload_n C 0 rfl rfl dX12_input_38 ?_
    refine jr_getI C FX_10 55 oS_0.1 oS_0.2 ff_10_55.1 ff_10_55.2 fl_X12_384 dX12_input_39 ?_
    exact jr_end (fun h => hr ((s4.1 0 55), s4) h _ _ dX12_input_42)
  refine jo_pos h2 ?_
  refine jr_iconst C ic_m1 dX12_input_16 ?_
  exact jr_end (fun h => hr ((-1), s) h _ _ dX12_input_17)
set_option maxRecDepth 100000 in
theorem c_Mo_input (l : Launch)  (v1 : Int32) (s : St) {q : (Int32 × St)} (h : f_Mo_input v1 s = some q) : CT SM l yX12_input cX12_input 2 (some .int) 0 0 (fun a => [.ref (a 0), .int v1]) s q.2 (fun _ => some (.int q.1)) :=
  ct_I okX_M (by decide) (fun _ => Nat.le_of_ble_eq_true rfl) (fun G hl hR hL C hr => t_Mo_input G hR hL C (Acc := fun v => v = q)  v1 s (fun v hv => by rw [hv]; exact hr) ⟨_, h, rfl⟩)
noncomputable def f_Mo_suppress (v1 : Int32) (v2 : Int32) (v3 : Int32) (s : St) : Option (Int32 × St) :=
  if (s.1 0 19) = 0 then
  some ((-1), s)
  else
  if (s.1 0 68) = 20 then
  some ((-1), s)
  else
  if v1 < 0 then
  some ((-1), s)
  else
  if 7 < v1 then
  some ((-1), s)
  else
  if v2 < 0 then
  some ((-1), s)
  else
  if v2 ≤ v3 then
  (gd (s.1 0 68) 20 <|
  lt (uI s 42 ((s.1 0 68) : Int32).toNatClampNeg v1) fun s7 =>
  gd (s7.1 0 68) 20 <|
  lt (uI s7 43 ((s7.1 0 68) : Int32).toNatClampNeg v2) fun s8 =>
  gd (s8.1 0 68) 20 <|
  lt (uI s8 44 ((s8.1 0 68) : Int32).toNatClampNeg v3) fun s9 =>
  lt (uI s9 0 68 ((s9.1 0 68) + 1)) fun s10 =>
  some ((s10.1 0 68), s10))
  else
  some ((-1), s)
set_option maxHeartbeats 4000000 in
set_option maxRecDepth 100000 in
theorem t_Mo_suppress (G : GG) (hR : gR G = rmx 0 0) (hL : gL G = 4) (C : Cx SM G cX12_suppress RX12) {Acc : (Int32 × St) → Prop}  (v1 : Int32) (v2 : Int32) (v3 : Int32) (s : St) (hr : ∀ v : (Int32 × St), Acc v → RtI SM G cX12_suppress v.1 v.2) : JJ SM G Acc (f_Mo_suppress v1 v2 v3 s) 0 [(0, .ref (ad G 0)), (1, .int v1), (2, .int v2), (3, .int v3)] [] s := by
  unfold f_Mo_suppress
  refine jr_aload_n C 0 rfl rfl dX12_suppress_0 ?_
  refine jr_getI C FX_10 19 oS_0.1 oS_0.2 ff_10_19.1 ff_10_19.2 fl_X12_380 dX12_suppress_1 ?_
  refine jr_if_eq C (tgt := 35) dX12_suppress_4 (by decide) (fun h1 => ?_) (fun h1 => ?_)
  · refine jo_pos h1 ?_
    refine jr_iconst C ic_m1 dX12_suppress_35 ?_
    exact jr_end (fun h => hr ((-1), s) h _ _ dX12_suppress_36)
  refine jo_neg h1 ?_
  refine jr_aload_n C 0 rfl rfl dX12_suppress_7 ?_
  refine jr_getI C FX_10 68 oS_0.1 oS_0.2 ff_10_68.1 ff_10_68.2 fl_X12_387 dX12_suppress_8 ?_
  refine jr_bipush C bp_20 dX12_suppress_11 ?_
  refine jr_icmp_eq C (tgt := 35) dX12_suppress_13 (by decide) (fun h2 => ?_) (fun h2 => ?_)
  · refine jo_pos h2 ?_
    refine jr_iconst C ic_m1 dX12_suppress_35 ?_
    exact jr_end (fun h => hr ((-1), s) h _ _ dX12_suppress_36)
  refine jo_neg h2 ?_
  refine jr_iload_n C 1 rfl rfl dX12_suppress_16 ?_
  refine jr_if_lt C (tgt := 35) dX12_suppress_17 (by decide) (fun h3 => ?_) (fun h3 => ?_)
  · refine jo_pos h3 ?_
    refine jr_iconst C ic_m1 dX12_suppress_35 ?_
    exact jr_end (fun h => hr ((-1), s) h _ _ dX12_suppress_36)
  refine jo_neg h3 ?_
  refine jr_iload_n C 1 rfl rfl dX12_suppress_20 ?_
  refine jr_bipush C bp_7 dX12_suppress_21 ?_
  refine jr_icmp_gt C (tgt := 35) dX12_suppress_23 (by decide) (fun h4 => ?_) (fun h4 => ?_)
  · refine jo_pos h4 ?_
    refine jr_iconst C ic_m1 dX12_suppress_35 ?_
    exact jr_end (fun h => hr ((-1), s) h _ _ dX12_suppress_36)
  refine jo_neg h4 ?_
  refine jr_iload_n C 2 rfl rfl dX12_suppress_26 ?_
  refine jr_if_lt C (tgt := 35) dX12_suppress_27 (by decide) (fun h5 => ?_) (fun h5 => ?_)
  · refine jo_pos h5 ?_
    refine jr_iconst C ic_m1 dX12_suppress_35 ?_
    exact jr_end (fun h => hr ((-1), s) h _ _ dX12_suppress_36)
  refine jo_neg h5 ?_
  refine jr_iload_n C 2 rfl rfl dX12_suppress_30 ?_
  refine jr_iload_n C 3 rfl rfl dX12_suppress_31 ?_
  refine jr_icmp_le C (tgt := 37) dX12_suppress_32 (by decide) (fun h6 => ?_) (fun h6 => ?_)
  · refine jo_pos h6 ?_
    refine jr_aload_n C 0 rfl rfl dX12_suppress_37 ?_
    refine jr_getR C FX_10 65 oS_0.1 oS_0.2 ff_10_65.1 ff_10_65.2 rfl fl_X12_142 dX12_suppress_38 ?_
    refine jr_aload_n C 0 rfl rfl dX12_suppress_41 ?_
    refine jr_getI C FX_10 68 oS_0.1 oS_0.2 ff_10_68.1 ff_10_68.2 fl_X12_387 dX12_suppress_42 ?_
    refine jr_iload_n C 1 rfl rfl dX12_suppress_45 ?_
    refine jr_iast C oS_42.1 oS_42.2.1 oS_42.2.2 dX12_suppress_46 (jr_ltS fun s7 => ?_)
    refine jr_aload_n C 0 rfl rfl dX12_suppress_47 ?_
    refine jr_getR C FX_10 66 oS_0.1 oS_0.2 ff_10_66.1 ff_10_66.2 rfl fl_X12_145 dX12_suppress_48 ?_
    refine jr_aload_n C 0 rfl rfl dX12_suppress_51 ?_
    refine jr_getI C FX_10 68 oS_0.1 oS_0.2 ff_10_68.1 ff_10_68.2 fl_X12_387 dX12_suppress_52 ?_
    refine jr_iload_n C 2 rfl rfl dX12_suppress_55 ?_
    refine jr_iast C oS_43.1 oS_43.2.1 oS_43.2.2 dX12_suppress_56 (jr_ltS fun s8 => ?_)
    refine jr_aload_n C 0 rfl rfl dX12_suppress_57 ?_
    refine jr_getR C FX_10 67 oS_0.1 oS_0.2 ff_10_67.1 ff_10_67.2 rfl fl_X12_148 dX12_suppress_58 ?_
    refine jr_aload_n C 0 rfl rfl dX12_suppress_61 ?_
    refine jr_getI C FX_10 68 oS_0.1 oS_0.2 ff_10_68.1 ff_10_68.2 fl_X12_387 dX12_suppress_62 ?_
    refine jr_iload_n C 3 rfl rfl dX12_suppress_65 ?_
    refine jr_iast C oS_44.1 oS_44.2.1 oS_44.2.2 dX12_suppress_66 (jr_ltS fun s9 => ?_)
    refine jr_aload_n C 0 rfl rfl dX12_suppress_67 ?_
    refine jr_dup C rfl dX12_suppress_68 ?_
    refine jr_getI C FX_10 68 oS_0.1 oS_0.2 ff_10_68.1 ff_10_68.2 fl_X12_387 dX12_suppress_69 ?_
    refine jr_iconst C ic_1 dX12_suppress_72 ?_
    refine jr_iadd C dX12_suppress_73 ?_
    refine jr_putI C FX_10 68 oS_0.1 oS_0.2 ff_10_68.1 ff_10_68.2 rfl rfl fl_X12_387 dX12_suppress_74 (jr_ltS fun s10 => ?_)
    refine jr_aload_n C 0 rfl rfl dX12_suppress_77 ?_
    refine jr_getI C FX_10 68 oS_0.1 oS_0.2 ff_10_68.1 ff_10_68.2 fl_X12_387 dX12_suppress_78 ?_
    exact jr_end (fun h => hr ((s10.1 0 68), s10) h _ _ dX12_suppress_81)
  refine jo_neg h6 ?_
  refine jr_iconst C ic_m1 dX12_suppress_35 ?_
  exact jr_end (fun h => hr ((-1), s) h _ _ dX12_suppress_36)
set_option maxRecDepth 100000 in
theorem c_Mo_suppress (l : Launch)  (v1 : Int32) (v2 : Int32) (v3 : Int32) (s : St) {q : (Int32 × St)} (h : f_Mo_suppress v1 v2 v3 s = some q) : CT SM l yX12_suppress cX12_suppress 4 (some .int) 0 0 (fun a => [.ref (a 0), .int v1, .int v2, .int v3]) s q.2 (fun _ => some (.int q.1)) :=
  ct_I okX_M (by decide) (fun _ => Nat.le_of_ble_eq_true rfl) (fun G hl hR hL C hr => t_Mo_suppress G hR hL C (Acc := fun v => v = q)  v1 v2 v3 s (fun v hv => by rw [hv]; exact hr) ⟨_, h, rfl⟩)
noncomputable def f_Mo_run (v1 : Int32) (s : St) : Option (Int32 × St) :=
  if (s.1 0 19) = 0 then
  some ((-1), s)
  else
  if v1 < 0 then
  some ((-1), s)
  else
  if v1 ≤ 20000 then
  (lt (uI s 0 28 0) fun s4 =>
  (f_Mo_spend v1 s4).bind fun q5 =>
  some (q5.1, q5.2))
  else
  some ((-1), s)
set_option maxHeartbeats 4000000 in
set_option maxRecDepth 100000 in
theorem t_Mo_run (G : GG) (hR : gR G = rmx 9 207) (hL : gL G = 2) (C : Cx SM G cX12_run RX12) {Acc : (Int32 × St) → Prop}  (v1 : Int32) (s : St) (hr : ∀ v : (Int32 × St), Acc v → RtI SM G cX12_run v.1 v.2) : JJ SM G Acc (f_Mo_run v1 s) 0 [(0, .ref (ad G 0)), (1, .int v1)] [] s := by
  unfold f_Mo_run
  refine jr_aload_n C 0 rfl rfl dX12_run_0 ?_
  refine jr_getI C FX_10 19 oS_0.1 oS_0.2 ff_10_19.1 ff_10_19.2 fl_X12_380 dX12_run_1 ?_
  refine jr_if_eq C (tgt := 18) dX12_run_4 (by decide) (fun h1 => ?_) (fun h1 => ?_)
  · refine jo_pos h1 ?_
    refine jr_iconst C ic_m1 dX12_run_18 ?_
    exact jr_end (fun h => hr ((-1), s) h _ _ dX12_run_19)
  refine jo_neg h1 ?_
  refine jr_iload_n C 1 rfl rfl dX12_run_7 ?_
  refine jr_if_lt C (tgt := 18) dX12_run_8 (by decide) (fun h2 => ?_) (fun h2 => ?_)
  · refine jo_pos h2 ?_
    refine jr_iconst C ic_m1 dX12_run_18 ?_
    exact jr_end (fun h => hr ((-1), s) h _ _ dX12_run_19)
  refine jo_neg h2 ?_
  refine jr_iload_n C 1 rfl rfl dX12_run_11 ?_
  refine jr_sipush C sp_20000 dX12_run_12 ?_
  refine jr_icmp_le C (tgt := 20) dX12_run_15 (by decide) (fun h3 => ?_) (fun h3 => ?_)
  · refine jo_pos h3 ?_
    refine jr_aload_n C 0 rfl rfl dX12_run_20 ?_
    refine jr_iconst C ic_0 dX12_run_21 ?_
    refine jr_putI C FX_10 28 oS_0.1 oS_0.2 ff_10_28.1 ff_10_28.2 rfl rfl fl_X12_394 dX12_run_22 (jr_ltS fun s4 => ?_)
    refine jr_aload_n C 0 rfl rfl dX12_run_25 ?_
    refine jr_iload_n C 1 rfl rfl dX12_run_26 ?_
    refine jr_bind (fun q5 e6 => ?_)
    refine jr_callVI C FX_10 km_X12_592 oS_0.1 oS_0.2 (rk hR rfl) (c_Mo_spend (gl G) v1 s4 e6) rfl rfl rfl (Nat.le_of_ble_eq_true rfl) dX12_run_27 ?_
    exact jr_end (fun h => hr (q5.1, q5.2) h _ _ dX12_run_30)
  refine jo_neg h3 ?_
  refine jr_iconst C ic_m1 dX12_run_18 ?_
  exact jr_end (fun h => hr ((-1), s) h _ _ dX12_run_19)
set_option maxRecDepth 100000 in
theorem c_Mo_run (l : Launch)  (v1 : Int32) (s : St) {q : (Int32 × St)} (h : f_Mo_run v1 s = some q) : CT SM l yX12_run cX12_run 2 (some .int) 9 207 (fun a => [.ref (a 0), .int v1]) s q.2 (fun _ => some (.int q.1)) :=
  ct_I okX_M (by decide) (fun _ => Nat.le_of_ble_eq_true rfl) (fun G hl hR hL C hr => t_Mo_run G hR hL C (Acc := fun v => v = q)  v1 s (fun v hv => by rw [hv]; exact hr) ⟨_, h, rfl⟩)
noncomputable def f_Mo_state (v1 : Int32) (s : St) : Option Int32 :=
  if (s.1 0 19) = 0 then
  some (-1)
  else
  if v1 = 0 then
  (gd 0 2 <|
  some (s.1 20 (0 : Int32).toNatClampNeg))
  else if v1 = 1 then
  (gd 0 2 <|
  some (s.1 21 (0 : Int32).toNatClampNeg))
  else if v1 = 2 then
  (gd 0 2 <|
  some (s.1 22 (0 : Int32).toNatClampNeg))
  else if v1 = 3 then
  some (s.1 0 61)
  else if v1 = 4 then
  some (s.1 0 62)
  else if v1 = 5 then
  some (s.1 0 63)
  else if v1 = 6 then
  some (s.1 0 56)
  else if v1 = 7 then
  (gd 0 2 <|
  some (s.1 34 (0 : Int32).toNatClampNeg))
  else if v1 = 8 then
  (gd 0 2 <|
  some (s.1 23 (0 : Int32).toNatClampNeg))
  else if v1 = 9 then
  (if (s.1 0 64) = 0 then
  some 0
  else
  some 1)
  else some (-1)
set_option maxHeartbeats 4000000 in
set_option maxRecDepth 100000 in
theorem t_Mo_state (G : GG) (hR : gR G = rmx 0 0) (hL : gL G = 2) (C : Cx SM G cX12_state RX12) {Acc : Int32 → Prop}  (v1 : Int32) (s : St) (hr : ∀ v : Int32, Acc v → RtI SM G cX12_state v s) : JJ SM G Acc (f_Mo_state v1 s) 0 [(0, .ref (ad G 0)), (1, .int v1)] [] s := by
  unfold f_Mo_state
  refine jr_aload_n C 0 rfl rfl dX12_state_0 ?_
  refine jr_getI C FX_10 19 oS_0.1 oS_0.2 ff_10_19.1 ff_10_19.2 fl_X12_380 dX12_state_1 ?_
  refine jr_if_ne C (tgt := 9) dX12_state_4 (by decide) (fun h1 => ?_) (fun h1 => ?_)
  · refine jo_neg h1 ?_
    refine jr_iload_n C 1 rfl rfl dX12_state_9 ?_
    refine jo_cases (fun h2 => ?_) (fun h2 => ?_)
    · refine jr_tabIn C dX12_state_10 h2 (by decide) (by decide) rfl (tgt := 64) (by decide) ?_
      refine jr_aload_n C 0 rfl rfl dX12_state_64 ?_
      refine jr_getR C FX_10 37 oS_0.1 oS_0.2 ff_10_37.1 ff_10_37.2 rfl fl_X12_76 dX12_state_65 ?_
      refine jr_iconst C ic_0 dX12_state_68 ?_
      refine jr_iald C oS_20.1 oS_20.2.1 oS_20.2.2 dX12_state_69 ?_
      exact jr_end (fun h => hr (s.1 20 (0 : Int32).toNatClampNeg) h _ _ dX12_state_70)
    refine jo_cases (fun h3 => ?_) (fun h3 => ?_)
    · refine jr_tabIn C dX12_state_10 h3 (by decide) (by decide) rfl (tgt := 71) (by decide) ?_
      refine jr_aload_n C 0 rfl rfl dX12_state_71 ?_
      refine jr_getR C FX_10 38 oS_0.1 oS_0.2 ff_10_38.1 ff_10_38.2 rfl fl_X12_79 dX12_state_72 ?_
      refine jr_iconst C ic_0 dX12_state_75 ?_
      refine jr_iald C oS_21.1 oS_21.2.1 oS_21.2.2 dX12_state_76 ?_
      exact jr_end (fun h => hr (s.1 21 (0 : Int32).toNatClampNeg) h _ _ dX12_state_77)
    refine jo_cases (fun h4 => ?_) (fun h4 => ?_)
    · refine jr_tabIn C dX12_state_10 h4 (by decide) (by decide) rfl (tgt := 78) (by decide) ?_
      refine jr_aload_n C 0 rfl rfl dX12_state_78 ?_
      refine jr_getR C FX_10 39 oS_0.1 oS_0.2 ff_10_39.1 ff_10_39.2 rfl fl_X12_82 dX12_state_79 ?_
      refine jr_iconst C ic_0 dX12_state_82 ?_
      refine jr_iald C oS_22.1 oS_22.2.1 oS_22.2.2 dX12_state_83 ?_
      exact jr_end (fun h => hr (s.1 22 (0 : Int32).toNatClampNeg) h _ _ dX12_state_84)
    refine jo_cases (fun h5 => ?_) (fun h5 => ?_)
    · refine jr_tabIn C dX12_state_10 h5 (by decide) (by decide) rfl (tgt := 85) (by decide) ?_
      refine jr_aload_n C 0 rfl rfl dX12_state_85 ?_
      refine jr_getI C FX_10 61 oS_0.1 oS_0.2 ff_10_61.1 ff_10_61.2 fl_X12_400 dX12_state_86 ?_
      exact jr_end (fun h => hr (s.1 0 61) h _ _ dX12_state_89)
    refine jo_cases (fun h6 => ?_) (fun h6 => ?_)
    · refine jr_tabIn C dX12_state_10 h6 (by decide) (by decide) rfl (tgt := 90) (by decide) ?_
      refine jr_aload_n C 0 rfl rfl dX12_state_90 ?_
      refine jr_getI C FX_10 62 oS_0.1 oS_0.2 ff_10_62.1 ff_10_62.2 fl_X12_403 dX12_state_91 ?_
      exact jr_end (fun h => hr (s.1 0 62) h _ _ dX12_state_94)
    refine jo_cases (fun h7 => ?_) (fun h7 => ?_)
    · refine jr_tabIn C dX12_state_10 h7 (by decide) (by decide) rfl (tgt := 95) (by decide) ?_
      refine jr_aload_n C 0 rfl rfl dX12_state_95 ?_
      refine jr_getI C FX_10 63 oS_0.1 oS_0.2 ff_10_63.1 ff_10_63.2 fl_X12_406 dX12_state_96 ?_
      exact jr_end (fun h => hr (s.1 0 63) h _ _ dX12_state_99)
    refine jo_cases (fun h8 => ?_) (fun h8 => ?_)
    · refine jr_tabIn C dX12_state_10 h8 (by decide) (by decide) rfl (tgt := 100) (by decide) ?_
      refine jr_aload_n C 0 rfl rfl dX12_state_100 ?_
      refine jr_getI C FX_10 56 oS_0.1 oS_0.2 ff_10_56.1 ff_10_56.2 fl_X12_409 dX12_state_101 ?_
      exact jr_end (fun h => hr (s.1 0 56) h _ _ dX12_state_104)
    refine jo_cases (fun h9 => ?_) (fun h9 => ?_)
    · refine jr_tabIn C dX12_state_10 h9 (by decide) (by decide) rfl (tgt := 105) (by decide) ?_
      refine jr_aload_n C 0 rfl rfl dX12_state_105 ?_
      refine jr_getR C FX_10 51 oS_0.1 oS_0.2 ff_10_51.1 ff_10_51.2 rfl fl_X12_118 dX12_state_106 ?_
      refine jr_iconst C ic_0 dX12_state_109 ?_
      refine jr_iald C oS_34.1 oS_34.2.1 oS_34.2.2 dX12_state_110 ?_
      exact jr_end (fun h => hr (s.1 34 (0 : Int32).toNatClampNeg) h _ _ dX12_state_111)
    refine jo_cases (fun h10 => ?_) (fun h10 => ?_)
    · refine jr_tabIn C dX12_state_10 h10 (by decide) (by decide) rfl (tgt := 112) (by decide) ?_
      refine jr_aload_n C 0 rfl rfl dX12_state_112 ?_
      refine jr_getR C FX_10 40 oS_0.1 oS_0.2 ff_10_40.1 ff_10_40.2 rfl fl_X12_85 dX12_state_113 ?_
      refine jr_iconst C ic_0 dX12_state_116 ?_
      refine jr_iald C oS_23.1 oS_23.2.1 oS_23.2.2 dX12_state_117 ?_
      exact jr_end (fun h => hr (s.1 23 (0 : Int32).toNatClampNeg) h _ _ dX12_state_118)
    refine jo_cases (fun h11 => ?_) (fun h11 => ?_)
    · refine jr_tabIn C dX12_state_10 h11 (by decide) (by decide) rfl (tgt := 119) (by decide) ?_
      refine jr_aload_n C 0 rfl rfl dX12_state_119 ?_
      refine jr_getI C FX_10 64 oS_0.1 oS_0.2 ff_10_64.1 ff_10_64.2 fl_X12_412 dX12_state_120 ?_
      refine jr_if_eq C (tgt := 130) dX12_state_123 (by decide) (fun h12 => ?_) (fun h12 => ?_)
      · refine jo_pos h12 ?_
        refine jr_iconst C ic_0 dX12_state_130 ?_
        exact jr_end (fun h => hr 0 h _ _ dX12_state_131)
      refine jo_neg h12 ?_
      refine jr_iconst C ic_1 dX12_state_126 ?_
      refine jr_goto C (tgt := 131) dX12_state_127 (by decide) ?_
      exact jr_end (fun h => hr 1 h _ _ dX12_state_131)
    refine jr_tabOut C dX12_state_10 (by have e0 := lv_neT h2 (a := 0) (by decide); have e1 := lv_neT h3 (a := 1) (by decide); have e2 := lv_neT h4 (a := 2) (by decide); have e3 := lv_neT h5 (a := 3) (by decide); have e4 := lv_neT h6 (a := 4) (by decide); have e5 := lv_neT h7 (a := 5) (by decide); have e6 := lv_neT h8 (a := 6) (by decide); have e7 := lv_neT h9 (a := 7) (by decide); have e8 := lv_neT h10 (a := 8) (by decide); have e9 := lv_neT h11 (a := 9) (by decide); omega) (tgt := 132) (by decide) ?_
    refine jr_iconst C ic_m1 dX12_state_132 ?_
    exact jr_end (fun h => hr (-1) h _ _ dX12_state_133)
  refine jo_pos h1 ?_
  refine jr_iconst C ic_m1 dX12_state_7 ?_
  exact jr_end (fun h => hr (-1) h _ _ dX12_state_8)
set_option maxRecDepth 100000 in
theorem c_Mo_state (l : Launch)  (v1 : Int32) (s : St) {q : Int32} (h : f_Mo_state v1 s = some q) : CT SM l yX12_state cX12_state 2 (some .int) 0 0 (fun a => [.ref (a 0), .int v1]) s s (fun _ => some (.int q)) :=
  ct_I okX_M (by decide) (fun _ => Nat.le_of_ble_eq_true rfl) (fun G hl hR hL C hr => t_Mo_state G hR hL C (Acc := fun v => v = q)  v1 s (fun v hv => by rw [hv]; exact hr) ⟨_, h, rfl⟩)
noncomputable def f_Mo_register (v1 : Int32) (v2 : Int32) (s : St) : Option Int32 :=
  if (s.1 0 19) = 0 then
  some (-1)
  else
  if v1 < 0 then
  some (-1)
  else
  if v1 ≤ 7 then
  (if v2 = 0 then
  (gd v1 16 <|
  some (s.1 13 (v1 : Int32).toNatClampNeg))
  else
  if v2 = 1 then
  (gd v1 16 <|
  some (s.1 14 (v1 : Int32).toNatClampNeg))
  else
  if v2 = 2 then
  (gd v1 16 <|
  some (s.1 15 (v1 : Int32).toNatClampNeg))
  else
  some (-1))
  else
  some (-1)
set_option maxHeartbeats 4000000 in
set_option maxRecDepth 100000 in
theorem t_Mo_register (G : GG) (hR : gR G = rmx 0 0) (hL : gL G = 3) (C : Cx SM G cX12_register RX12) {Acc : Int32 → Prop}  (v1 : Int32) (v2 : Int32) (s : St) (hr : ∀ v : Int32, Acc v → RtI SM G cX12_register v s) : JJ SM G Acc (f_Mo_register v1 v2 s) 0 [(0, .ref (ad G 0)), (1, .int v1), (2, .int v2)] [] s := by
  unfold f_Mo_register
  refine jr_aload_n C 0 rfl rfl dX12_register_0 ?_
  refine jr_getI C FX_10 19 oS_0.1 oS_0.2 ff_10_19.1 ff_10_19.2 fl_X12_380 dX12_register_1 ?_
  refine jr_if_eq C (tgt := 17) dX12_register_4 (by decide) (fun h1 => ?_) (fun h1 => ?_)
  · refine jo_pos h1 ?_
    refine jr_iconst C ic_m1 dX12_register_17 ?_
    exact jr_end (fun h => hr (-1) h _ _ dX12_register_18)
  refine jo_neg h1 ?_
  refine jr_iload_n C 1 rfl rfl dX12_register_7 ?_
  refine jr_if_lt C (tgt := 17) dX12_register_8 (by decide) (fun h2 => ?_) (fun h2 => ?_)
  · refine jo_pos h2 ?_
    refine jr_iconst C ic_m1 dX12_register_17 ?_
    exact jr_end (fun h => hr (-1) h _ _ dX12_register_18)
  refine jo_neg h2 ?_
  refine jr_iload_n C 1 rfl rfl dX12_register_11 ?_
  refine jr_bipush C bp_7 dX12_register_12 ?_
  refine jr_icmp_le C (tgt := 19) dX12_register_14 (by decide) (fun h3 => ?_) (fun h3 => ?_)
  · refine jo_pos h3 ?_
    refine jr_iload_n C 2 rfl rfl dX12_register_19 ?_
    refine jr_if_ne C (tgt := 32) dX12_register_20 (by decide) (fun h4 => ?_) (fun h4 => ?_)
    · refine jo_neg h4 ?_
      refine jr_iload_n C 2 rfl rfl dX12_register_32 ?_
      refine jr_iconst C ic_1 dX12_register_33 ?_
      refine jr_icmp_ne C (tgt := 46) dX12_register_34 (by decide) (fun h5 => ?_) (fun h5 => ?_)
      · refine jo_neg h5 ?_
        refine jr_iload_n C 2 rfl rfl dX12_register_46 ?_
        refine jr_iconst C ic_2 dX12_register_47 ?_
        refine jr_icmp_ne C (tgt := 60) dX12_register_48 (by decide) (fun h6 => ?_) (fun h6 => ?_)
        · refine jo_neg h6 ?_
          refine jr_iconst C ic_m1 dX12_register_60 ?_
          exact jr_end (fun h => hr (-1) h _ _ dX12_register_61)
        refine jo_pos h6 ?_
        refine jr_aload_n C 0 rfl rfl dX12_register_51 ?_
        refine jr_getR C FX_10 32 oS_0.1 oS_0.2 ff_10_32.1 ff_10_32.2 rfl fl_X12_61 dX12_register_52 ?_
        refine jr_iload_n C 1 rfl rfl dX12_register_55 ?_
        refine jr_iald C oS_15.1 oS_15.2.1 oS_15.2.2 dX12_register_56 ?_
        refine jr_goto C (tgt := 61) dX12_register_57 (by decide) ?_
        exact jr_end (fun h => hr (s.1 15 (v1 : Int32).toNatClampNeg) h _ _ dX12_register_61)
      refine jo_pos h5 ?_
      refine jr_aload_n C 0 rfl rfl dX12_register_37 ?_
      refine jr_getR C FX_10 31 oS_0.1 oS_0.2 ff_10_31.1 ff_10_31.2 rfl fl_X12_58 dX12_register_38 ?_
      refine jr_iload_n C 1 rfl rfl dX12_register_41 ?_
      refine jr_iald C oS_14.1 oS_14.2.1 oS_14.2.2 dX12_register_42 ?_
      refine jr_goto C (tgt := 61) dX12_register_43 (by decide) ?_
      exact jr_end (fun h => hr (s.1 14 (v1 : Int32).toNatClampNeg) h _ _ dX12_register_61)
    refine jo_pos h4 ?_
    refine jr_aload_n C 0 rfl rfl dX12_register_23 ?_
    refine jr_getR C FX_10 30 oS_0.1 oS_0.2 ff_10_30.1 ff_10_30.2 rfl fl_X12_55 dX12_register_24 ?_
    refine jr_iload_n C 1 rfl rfl dX12_register_27 ?_
    refine jr_iald C oS_13.1 oS_13.2.1 oS_13.2.2 dX12_register_28 ?_
    refine jr_goto C (tgt := 61) dX12_register_29 (by decide) ?_
    exact jr_end (fun h => hr (s.1 13 (v1 : Int32).toNatClampNeg) h _ _ dX12_register_61)
  refine jo_neg h3 ?_
  refine jr_iconst C ic_m1 dX12_register_17 ?_
  exact jr_end (fun h => hr (-1) h _ _ dX12_register_18)
set_option maxRecDepth 100000 in
theorem c_Mo_register (l : Launch)  (v1 : Int32) (v2 : Int32) (s : St) {q : Int32} (h : f_Mo_register v1 v2 s = some q) : CT SM l yX12_register cX12_register 3 (some .int) 0 0 (fun a => [.ref (a 0), .int v1, .int v2]) s s (fun _ => some (.int q)) :=
  ct_I okX_M (by decide) (fun _ => Nat.le_of_ble_eq_true rfl) (fun G hl hR hL C hr => t_Mo_register G hR hL C (Acc := fun v => v = q)  v1 v2 s (fun v hv => by rw [hv]; exact hr) ⟨_, h, rfl⟩)
noncomputable def f_Mo_memory (v1 : Int32) (v2 : Int32) (s : St) : Option Int32 :=
  if (s.1 0 19) = 0 then
  some (-1)
  else
  if v1 < 0 then
  some (-1)
  else
  if v1 < 4096 then
  (if v2 = 0 then
  (gd v1 8192 <|
  some (s.1 16 (v1 : Int32).toNatClampNeg))
  else
  if v2 = 1 then
  (gd v1 8192 <|
  some (s.1 17 (v1 : Int32).toNatClampNeg))
  else
  if v2 = 2 then
  (gd v1 8192 <|
  some (s.1 18 (v1 : Int32).toNatClampNeg))
  else
  if v2 = 3 then
  (gd v1 8192 <|
  if (s.1 19 (v1 : Int32).toNatClampNeg) = 0 then
  some 0
  else
  some 1)
  else
  some (-1))
  else
  some (-1)
set_option maxHeartbeats 4000000 in
set_option maxRecDepth 100000 in
theorem t_Mo_memory (G : GG) (hR : gR G = rmx 0 0) (hL : gL G = 3) (C : Cx SM G cX12_memory RX12) {Acc : Int32 → Prop}  (v1 : Int32) (v2 : Int32) (s : St) (hr : ∀ v : Int32, Acc v → RtI SM G cX12_memory v s) : JJ SM G Acc (f_Mo_memory v1 v2 s) 0 [(0, .ref (ad G 0)), (1, .int v1), (2, .int v2)] [] s := by
  unfold f_Mo_memory
  refine jr_aload_n C 0 rfl rfl dX12_memory_0 ?_
  refine jr_getI C FX_10 19 oS_0.1 oS_0.2 ff_10_19.1 ff_10_19.2 fl_X12_380 dX12_memory_1 ?_
  refine jr_if_eq C (tgt := 18) dX12_memory_4 (by decide) (fun h1 => ?_) (fun h1 => ?_)
  · refine jo_pos h1 ?_
    refine jr_iconst C ic_m1 dX12_memory_18 ?_
    exact jr_end (fun h => hr (-1) h _ _ dX12_memory_19)
  refine jo_neg h1 ?_
  refine jr_iload_n C 1 rfl rfl dX12_memory_7 ?_
  refine jr_if_lt C (tgt := 18) dX12_memory_8 (by decide) (fun h2 => ?_) (fun h2 => ?_)
  · refine jo_pos h2 ?_
    refine jr_iconst C ic_m1 dX12_memory_18 ?_
    exact jr_end (fun h => hr (-1) h _ _ dX12_memory_19)
  refine jo_neg h2 ?_
  refine jr_iload_n C 1 rfl rfl dX12_memory_11 ?_
  refine jr_sipush C sp_4096 dX12_memory_12 ?_
  refine jr_icmp_lt C (tgt := 20) dX12_memory_15 (by decide) (fun h3 => ?_) (fun h3 => ?_)
  · refine jo_pos h3 ?_
    refine jr_iload_n C 2 rfl rfl dX12_memory_20 ?_
    refine jr_if_ne C (tgt := 33) dX12_memory_21 (by decide) (fun h4 => ?_) (fun h4 => ?_)
    · refine jo_neg h4 ?_
      refine jr_iload_n C 2 rfl rfl dX12_memory_33 ?_
      refine jr_iconst C ic_1 dX12_memory_34 ?_
      refine jr_icmp_ne C (tgt := 47) dX12_memory_35 (by decide) (fun h5 => ?_) (fun h5 => ?_)
      · refine jo_neg h5 ?_
        refine jr_iload_n C 2 rfl rfl dX12_memory_47 ?_
        refine jr_iconst C ic_2 dX12_memory_48 ?_
        refine jr_icmp_ne C (tgt := 61) dX12_memory_49 (by decide) (fun h6 => ?_) (fun h6 => ?_)
        · refine jo_neg h6 ?_
          refine jr_iload_n C 2 rfl rfl dX12_memory_61 ?_
          refine jr_iconst C ic_3 dX12_memory_62 ?_
          refine jr_icmp_ne C (tgt := 83) dX12_memory_63 (by decide) (fun h7 => ?_) (fun h7 => ?_)
          · refine jo_neg h7 ?_
            refine jr_iconst C ic_m1 dX12_memory_83 ?_
            exact jr_end (fun h => hr (-1) h _ _ dX12_memory_84)
          refine jo_pos h7 ?_
          refine jr_aload_n C 0 rfl rfl dX12_memory_66 ?_
          refine jr_getR C FX_10 36 oS_0.1 oS_0.2 ff_10_36.1 ff_10_36.2 rfl fl_X12_73 dX12_memory_67 ?_
          refine jr_iload_n C 1 rfl rfl dX12_memory_70 ?_
          refine jr_zald C oS_19.1 oS_19.2.1 oS_19.2.2 dX12_memory_71 ?_
          refine jr_if_eq C (tgt := 79) dX12_memory_72 (by decide) (fun h8 => ?_) (fun h8 => ?_)
          · refine jo_pos h8 ?_
            refine jr_iconst C ic_0 dX12_memory_79 ?_
            refine jr_goto C (tgt := 84) dX12_memory_80 (by decide) ?_
            exact jr_end (fun h => hr 0 h _ _ dX12_memory_84)
          refine jo_neg h8 ?_
          refine jr_iconst C ic_1 dX12_memory_75 ?_
          refine jr_goto C (tgt := 84) dX12_memory_76 (by decide) ?_
          exact jr_end (fun h => hr 1 h _ _ dX12_memory_84)
        refine jo_pos h6 ?_
        refine jr_aload_n C 0 rfl rfl dX12_memory_52 ?_
        refine jr_getR C FX_10 35 oS_0.1 oS_0.2 ff_10_35.1 ff_10_35.2 rfl fl_X12_70 dX12_memory_53 ?_
        refine jr_iload_n C 1 rfl rfl dX12_memory_56 ?_
        refine jr_iald C oS_18.1 oS_18.2.1 oS_18.2.2 dX12_memory_57 ?_
        refine jr_goto C (tgt := 84) dX12_memory_58 (by decide) ?_
        exact jr_end (fun h => hr (s.1 18 (v1 : Int32).toNatClampNeg) h _ _ dX12_memory_84)
      refine jo_pos h5 ?_
      refine jr_aload_n C 0 rfl rfl dX12_memory_38 ?_
      refine jr_getR C FX_10 34 oS_0.1 oS_0.2 ff_10_34.1 ff_10_34.2 rfl fl_X12_67 dX12_memory_39 ?_
      refine jr_iload_n C 1 rfl rfl dX12_memory_42 ?_
      refine jr_iald C oS_17.1 oS_17.2.1 oS_17.2.2 dX12_memory_43 ?_
      refine jr_goto C (tgt := 84) dX12_memory_44 (by decide) ?_
      exact jr_end (fun h => hr (s.1 17 (v1 : Int32).toNatClampNeg) h _ _ dX12_memory_84)
    refine jo_pos h4 ?_
    refine jr_aload_n C 0 rfl rfl dX12_memory_24 ?_
    refine jr_getR C FX_10 33 oS_0.1 oS_0.2 ff_10_33.1 ff_10_33.2 rfl fl_X12_64 dX12_memory_25 ?_
    refine jr_iload_n C 1 rfl rfl dX12_memory_28 ?_
    refine jr_iald C oS_16.1 oS_16.2.1 oS_16.2.2 dX12_memory_29 ?_
    refine jr_goto C (tgt := 84) dX12_memory_30 (by decide) ?_
    exact jr_end (fun h => hr (s.1 16 (v1 : Int32).toNatClampNeg) h _ _ dX12_memory_84)
  refine jo_neg h3 ?_
  refine jr_iconst C ic_m1 dX12_memory_18 ?_
  exact jr_end (fun h => hr (-1) h _ _ dX12_memory_19)
set_option maxRecDepth 100000 in
theorem c_Mo_memory (l : Launch)  (v1 : Int32) (v2 : Int32) (s : St) {q : Int32} (h : f_Mo_memory v1 v2 s = some q) : CT SM l yX12_memory cX12_memory 3 (some .int) 0 0 (fun a => [.ref (a 0), .int v1, .int v2]) s s (fun _ => some (.int q)) :=
  ct_I okX_M (by decide) (fun _ => Nat.le_of_ble_eq_true rfl) (fun G hl hR hL C hr => t_Mo_memory G hR hL C (Acc := fun v => v = q)  v1 v2 s (fun v hv => by rw [hv]; exact hr) ⟨_, h, rfl⟩)
noncomputable def f_Mo_report (v1 : Int32) (v2 : Int32) (s : St) : Option Int32 :=
  if v1 < 0 then
  some (-1)
  else
  if v1 < (s.1 0 61) then
  (if v2 = 0 then
  (gd v1 60 <|
  some (s.1 38 (v1 : Int32).toNatClampNeg))
  else
  if v2 = 1 then
  (gd v1 60 <|
  some (s.1 39 (v1 : Int32).toNatClampNeg))
  else
  if v2 = 2 then
  (gd v1 60 <|
  some (s.1 40 (v1 : Int32).toNatClampNeg))
  else
  if v2 = 3 then
  (gd v1 60 <|
  some (s.1 41 (v1 : Int32).toNatClampNeg))
  else
  some (-1))
  else
  some (-1)
set_option maxHeartbeats 4000000 in
set_option maxRecDepth 100000 in
theorem t_Mo_report (G : GG) (hR : gR G = rmx 0 0) (hL : gL G = 3) (C : Cx SM G cX12_report RX12) {Acc : Int32 → Prop}  (v1 : Int32) (v2 : Int32) (s : St) (hr : ∀ v : Int32, Acc v → RtI SM G cX12_report v s) : JJ SM G Acc (f_Mo_report v1 v2 s) 0 [(0, .ref (ad G 0)), (1, .int v1), (2, .int v2)] [] s := by
  unfold f_Mo_report
  refine jr_iload_n C 1 rfl rfl dX12_report_0 ?_
  refine jr_if_lt C (tgt := 12) dX12_report_1 (by decide) (fun h1 => ?_) (fun h1 => ?_)
  · refine jo_pos h1 ?_
    refine jr_iconst C ic_m1 dX12_report_12 ?_
    exact jr_end (fun h => hr (-1) h _ _ dX12_report_13)
  refine jo_neg h1 ?_
  refine jr_iload_n C 1 rfl rfl dX12_report_4 ?_
  refine jr_aload_n C 0 rfl rfl dX12_report_5 ?_
  refine jr_getI C FX_10 61 oS_0.1 oS_0.2 ff_10_61.1 ff_10_61.2 fl_X12_400 dX12_report_6 ?_
  refine jr_icmp_lt C (tgt := 14) dX12_report_9 (by decide) (fun h2 => ?_) (fun h2 => ?_)
  · refine jo_pos h2 ?_
    refine jr_iload_n C 2 rfl rfl dX12_report_14 ?_
    refine jr_if_ne C (tgt := 27) dX12_report_15 (by decide) (fun h3 => ?_) (fun h3 => ?_)
    · refine jo_neg h3 ?_
      refine jr_iload_n C 2 rfl rfl dX12_report_27 ?_
      refine jr_iconst C ic_1 dX12_report_28 ?_
      refine jr_icmp_ne C (tgt := 41) dX12_report_29 (by decide) (fun h4 => ?_) (fun h4 => ?_)
      · refine jo_neg h4 ?_
        refine jr_iload_n C 2 rfl rfl dX12_report_41 ?_
        refine jr_iconst C ic_2 dX12_report_42 ?_
        refine jr_icmp_ne C (tgt := 55) dX12_report_43 (by decide) (fun h5 => ?_) (fun h5 => ?_)
        · refine jo_neg h5 ?_
          refine jr_iload_n C 2 rfl rfl dX12_report_55 ?_
          refine jr_iconst C ic_3 dX12_report_56 ?_
          refine jr_icmp_ne C (tgt := 69) dX12_report_57 (by decide) (fun h6 => ?_) (fun h6 => ?_)
          · refine jo_neg h6 ?_
            refine jr_iconst C ic_m1 dX12_report_69 ?_
            exact jr_end (fun h => hr (-1) h _ _ dX12_report_70)
          refine jo_pos h6 ?_
          refine jr_aload_n C 0 rfl rfl dX12_report_60 ?_
          refine jr_getR C FX_10 60 oS_0.1 oS_0.2 ff_10_60.1 ff_10_60.2 rfl fl_X12_139 dX12_report_61 ?_
          refine jr_iload_n C 1 rfl rfl dX12_report_64 ?_
          refine jr_iald C oS_41.1 oS_41.2.1 oS_41.2.2 dX12_report_65 ?_
          refine jr_goto C (tgt := 70) dX12_report_66 (by decide) ?_
          exact jr_end (fun h => hr (s.1 41 (v1 : Int32).toNatClampNeg) h _ _ dX12_report_70)
        refine jo_pos h5 ?_
        refine jr_aload_n C 0 rfl rfl dX12_report_46 ?_
        refine jr_getR C FX_10 59 oS_0.1 oS_0.2 ff_10_59.1 ff_10_59.2 rfl fl_X12_136 dX12_report_47 ?_
        refine jr_iload_n C 1 rfl rfl dX12_report_50 ?_
        refine jr_iald C oS_40.1 oS_40.2.1 oS_40.2.2 dX12_report_51 ?_
        refine jr_goto C (tgt := 70) dX12_report_52 (by decide) ?_
        exact jr_end (fun h => hr (s.1 40 (v1 : Int32).toNatClampNeg) h _ _ dX12_report_70)
      refine jo_pos h4 ?_
      refine jr_aload_n C 0 rfl rfl dX12_report_32 ?_
      refine jr_getR C FX_10 58 oS_0.1 oS_0.2 ff_10_58.1 ff_10_58.2 rfl fl_X12_133 dX12_report_33 ?_
      refine jr_iload_n C 1 rfl rfl dX12_report_36 ?_
      refine jr_iald C oS_39.1 oS_39.2.1 oS_39.2.2 dX12_report_37 ?_
      refine jr_goto C (tgt := 70) dX12_report_38 (by decide) ?_
      exact jr_end (fun h => hr (s.1 39 (v1 : Int32).toNatClampNeg) h _ _ dX12_report_70)
    refine jo_pos h3 ?_
    refine jr_aload_n C 0 rfl rfl dX12_report_18 ?_
    refine jr_getR C FX_10 57 oS_0.1 oS_0.2 ff_10_57.1 ff_10_57.2 rfl fl_X12_130 dX12_report_19 ?_
    refine jr_iload_n C 1 rfl rfl dX12_report_22 ?_
    refine jr_iald C oS_38.1 oS_38.2.1 oS_38.2.2 dX12_report_23 ?_
    refine jr_goto C (tgt := 70) dX12_report_24 (by decide) ?_
    exact jr_end (fun h => hr (s.1 38 (v1 : Int32).toNatClampNeg) h _ _ dX12_report_70)
  refine jo_neg h2 ?_
  refine jr_iconst C ic_m1 dX12_report_12 ?_
  exact jr_end (fun h => hr (-1) h _ _ dX12_report_13)
set_option maxRecDepth 100000 in
theorem c_Mo_report (l : Launch)  (v1 : Int32) (v2 : Int32) (s : St) {q : Int32} (h : f_Mo_report v1 v2 s = some q) : CT SM l yX12_report cX12_report 3 (some .int) 0 0 (fun a => [.ref (a 0), .int v1, .int v2]) s s (fun _ => some (.int q)) :=
  ct_I okX_M (by decide) (fun _ => Nat.le_of_ble_eq_true rfl) (fun G hl hR hL C hr => t_Mo_report G hR hL C (Acc := fun v => v = q)  v1 v2 s (fun v hv => by rw [hv]; exact hr) ⟨_, h, rfl⟩)
noncomputable def f_Mo_output (v1 : Int32) (s : St) : Option Int32 :=
  if v1 < 0 then
  some (-1)
  else
  if 100 ≤ v1 then
  some (-1)
  else
  if v1 < (s.1 0 56) then
  (gd v1 100 <|
  some (s.1 37 (v1 : Int32).toNatClampNeg))
  else
  some (-1)
set_option maxHeartbeats 4000000 in
set_option maxRecDepth 100000 in
theorem t_Mo_output (G : GG) (hR : gR G = rmx 0 0) (hL : gL G = 2) (C : Cx SM G cX12_output RX12) {Acc : Int32 → Prop}  (v1 : Int32) (s : St) (hr : ∀ v : Int32, Acc v → RtI SM G cX12_output v s) : JJ SM G Acc (f_Mo_output v1 s) 0 [(0, .ref (ad G 0)), (1, .int v1)] [] s := by
  unfold f_Mo_output
  refine jr_iload_n C 1 rfl rfl dX12_output_0 ?_
  refine jr_if_lt C (tgt := 18) dX12_output_1 (by decide) (fun h1 => ?_) (fun h1 => ?_)
  · refine jo_pos h1 ?_
    refine jr_iconst C ic_m1 dX12_output_18 ?_
    refine jr_goto C (tgt := 28) dX12_output_19 (by decide) ?_
    exact jr_end (fun h => hr (-1) h _ _ dX12_output_28)
  refine jo_neg h1 ?_
  refine jr_iload_n C 1 rfl rfl dX12_output_4 ?_
  refine jr_bipush C bp_100 dX12_output_5 ?_
  refine jr_icmp_ge C (tgt := 18) dX12_output_7 (by decide) (fun h2 => ?_) (fun h2 => ?_)
  · refine jo_pos h2 ?_
    refine jr_iconst C ic_m1 dX12_output_18 ?_
    refine jr_goto C (tgt := 28) dX12_output_19 (by decide) ?_
    exact jr_end (fun h => hr (-1) h _ _ dX12_output_28)
  refine jo_neg h2 ?_
  refine jr_iload_n C 1 rfl rfl dX12_output_10 ?_
  refine jr_aload_n C 0 rfl rfl dX12_output_11 ?_
  refine jr_getI C FX_10 56 oS_0.1 oS_0.2 ff_10_56.1 ff_10_56.2 fl_X12_409 dX12_output_12 ?_
  refine jr_icmp_lt C (tgt := 22) dX12_output_15 (by decide) (fun h3 => ?_) (fun h3 => ?_)
  · refine jo_pos h3 ?_
    refine jr_aload_n C 0 rfl rfl dX12_output_22 ?_
    refine jr_getR C FX_10 54 oS_0.1 oS_0.2 ff_10_54.1 ff_10_54.2 rfl fl_X12_127 dX12_output_23 ?_
    refine jr_iload_n C 1 rfl rfl dX12_output_26 ?_
    refine jr_iald C oS_37.1 oS_37.2.1 oS_37.2.2 dX12_output_27 ?_
    exact jr_end (fun h => hr (s.1 37 (v1 : Int32).toNatClampNeg) h _ _ dX12_output_28)
  refine jo_neg h3 ?_
  refine jr_iconst C ic_m1 dX12_output_18 ?_
  refine jr_goto C (tgt := 28) dX12_output_19 (by decide) ?_
  exact jr_end (fun h => hr (-1) h _ _ dX12_output_28)
set_option maxRecDepth 100000 in
theorem c_Mo_output (l : Launch)  (v1 : Int32) (s : St) {q : Int32} (h : f_Mo_output v1 s = some q) : CT SM l yX12_output cX12_output 2 (some .int) 0 0 (fun a => [.ref (a 0), .int v1]) s s (fun _ => some (.int q)) :=
  ct_I okX_M (by decide) (fun _ => Nat.le_of_ble_eq_true rfl) (fun G hl hR hL C hr => t_Mo_output G hR hL C (Acc := fun v => v = q)  v1 s (fun v hv => by rw [hv]; exact hr) ⟨_, h, rfl⟩)
noncomputable def f_Mo_block (v1 : Int32) (v2 : Int32) (s : St) : Option (Int32 × St) :=
  if (s.1 0 19) = 0 then
  some ((-1), s)
  else
  if v1 < 1 then
  some ((-1), s)
  else
  gd 0 2 <|
  if v1 ≤ (s.1 34 (0 : Int32).toNatClampNeg) then
  (if v2 = 0 then
  (gd v1 202 <|
  some ((s.1 28 (v1 : Int32).toNatClampNeg), s))
  else if v2 = 1 then
  (gd v1 202 <|
  some ((s.1 29 (v1 : Int32).toNatClampNeg), s))
  else if v2 = 2 then
  (gd v1 202 <|
  some ((s.1 30 (v1 : Int32).toNatClampNeg), s))
  else if v2 = 3 then
  (gd v1 202 <|
  some ((s.1 31 (v1 : Int32).toNatClampNeg), s))
  else if v2 = 4 then
  (gd v1 202 <|
  some ((s.1 32 (v1 : Int32).toNatClampNeg), s))
  else if v2 = 5 then
  ((f_Mo_findLost s).bind fun q10 =>
  gd v1 101 <|
  some ((q10.1 48 (v1 : Int32).toNatClampNeg), q10))
  else some ((-1), s))
  else
  some ((-1), s)
set_option maxHeartbeats 4000000 in
set_option maxRecDepth 100000 in
theorem t_Mo_block (G : GG) (hR : gR G = rmx 4 96) (hL : gL G = 3) (C : Cx SM G cX12_block RX12) {Acc : (Int32 × St) → Prop}  (v1 : Int32) (v2 : Int32) (s : St) (hr : ∀ v : (Int32 × St), Acc v → RtI SM G cX12_block v.1 v.2) : JJ SM G Acc (f_Mo_block v1 v2 s) 0 [(0, .ref (ad G 0)), (1, .int v1), (2, .int v2)] [] s := by
  unfold f_Mo_block
  refine jr_aload_n C 0 rfl rfl dX12_block_0 ?_
  refine jr_getI C FX_10 19 oS_0.1 oS_0.2 ff_10_19.1 ff_10_19.2 fl_X12_380 dX12_block_1 ?_
  refine jr_if_eq C (tgt := 22) dX12_block_4 (by decide) (fun h1 => ?_) (fun h1 => ?_)
  · refine jo_pos h1 ?_
    refine jr_iconst C ic_m1 dX12_block_22 ?_
    exact jr_end (fun h => hr ((-1), s) h _ _ dX12_block_23)
  refine jo_neg h1 ?_
  refine jr_iload_n C 1 rfl rfl dX12_block_7 ?_
  refine jr_iconst C ic_1 dX12_block_8 ?_
  refine jr_icmp_lt C (tgt := 22) dX12_block_9 (by decide) (fun h2 => ?_) (fun h2 => ?_)
  · refine jo_pos h2 ?_
    refine jr_iconst C ic_m1 dX12_block_22 ?_
    exact jr_end (fun h => hr ((-1), s) h _ _ dX12_block_23)
  refine jo_neg h2 ?_
  refine jr_iload_n C 1 rfl rfl dX12_block_12 ?_
  refine jr_aload_n C 0 rfl rfl dX12_block_13 ?_
  refine jr_getR C FX_10 51 oS_0.1 oS_0.2 ff_10_51.1 ff_10_51.2 rfl fl_X12_118 dX12_block_14 ?_
  refine jr_iconst C ic_0 dX12_block_17 ?_
  refine jr_iald C oS_34.1 oS_34.2.1 oS_34.2.2 dX12_block_18 ?_
  refine jr_icmp_le C (tgt := 24) dX12_block_19 (by decide) (fun h3 => ?_) (fun h3 => ?_)
  · refine jo_pos h3 ?_
    refine jr_iload_n C 2 rfl rfl dX12_block_24 ?_
    refine jo_cases (fun h4 => ?_) (fun h4 => ?_)
    · refine jr_tabIn C dX12_block_25 h4 (by decide) (by decide) rfl (tgt := 64) (by decide) ?_
      refine jr_aload_n C 0 rfl rfl dX12_block_64 ?_
      refine jr_getR C FX_10 45 oS_0.1 oS_0.2 ff_10_45.1 ff_10_45.2 rfl fl_X12_100 dX12_block_65 ?_
      refine jr_iload_n C 1 rfl rfl dX12_block_68 ?_
      refine jr_iald C oS_28.1 oS_28.2.1 oS_28.2.2 dX12_block_69 ?_
      exact jr_end (fun h => hr ((s.1 28 (v1 : Int32).toNatClampNeg), s) h _ _ dX12_block_70)
    refine jo_cases (fun h5 => ?_) (fun h5 => ?_)
    · refine jr_tabIn C dX12_block_25 h5 (by decide) (by decide) rfl (tgt := 71) (by decide) ?_
      refine jr_aload_n C 0 rfl rfl dX12_block_71 ?_
      refine jr_getR C FX_10 46 oS_0.1 oS_0.2 ff_10_46.1 ff_10_46.2 rfl fl_X12_103 dX12_block_72 ?_
      refine jr_iload_n C 1 rfl rfl dX12_block_75 ?_
      refine jr_iald C oS_29.1 oS_29.2.1 oS_29.2.2 dX12_block_76 ?_
      exact jr_end (fun h => hr ((s.1 29 (v1 : Int32).toNatClampNeg), s) h _ _ dX12_block_77)
    refine jo_cases (fun h6 => ?_) (fun h6 => ?_)
    · refine jr_tabIn C dX12_block_25 h6 (by decide) (by decide) rfl (tgt := 78) (by decide) ?_
      refine jr_aload_n C 0 rfl rfl dX12_block_78 ?_
      refine jr_getR C FX_10 47 oS_0.1 oS_0.2 ff_10_47.1 ff_10_47.2 rfl fl_X12_106 dX12_block_79 ?_
      refine jr_iload_n C 1 rfl rfl dX12_block_82 ?_
      refine jr_iald C oS_30.1 oS_30.2.1 oS_30.2.2 dX12_block_83 ?_
      exact jr_end (fun h => hr ((s.1 30 (v1 : Int32).toNatClampNeg), s) h _ _ dX12_block_84)
    refine jo_cases (fun h7 => ?_) (fun h7 => ?_)
    · refine jr_tabIn C dX12_block_25 h7 (by decide) (by decide) rfl (tgt := 85) (by decide) ?_
      refine jr_aload_n C 0 rfl rfl dX12_block_85 ?_
      refine jr_getR C FX_10 48 oS_0.1 oS_0.2 ff_10_48.1 ff_10_48.2 rfl fl_X12_109 dX12_block_86 ?_
      refine jr_iload_n C 1 rfl rfl dX12_block_89 ?_
      refine jr_iald C oS_31.1 oS_31.2.1 oS_31.2.2 dX12_block_90 ?_
      exact jr_end (fun h => hr ((s.1 31 (v1 : Int32).toNatClampNeg), s) h _ _ dX12_block_91)
    refine jo_cases (fun h8 => ?_) (fun h8 => ?_)
    · refine jr_tabIn C dX12_block_25 h8 (by decide) (by decide) rfl (tgt := 92) (by decide) ?_
      refine jr_aload_n C 0 rfl rfl dX12_block_92 ?_
      refine jr_getR C FX_10 49 oS_0.1 oS_0.2 ff_10_49.1 ff_10_49.2 rfl fl_X12_112 dX12_block_93 ?_
      refine jr_iload_n C 1 rfl rfl dX12_block_96 ?_
      refine jr_iald C oS_32.1 oS_32.2.1 oS_32.2.2 dX12_block_97 ?_
      exact jr_end (fun h => hr ((s.1 32 (v1 : Int32).toNatClampNeg), s) h _ _ dX12_block_98)
    refine jo_cases (fun h9 => ?_) (fun h9 => ?_)
    · refine jr_tabIn C dX12_block_25 h9 (by decide) (by decide) rfl (tgt := 99) (by decide) ?_
      refine jr_aload_n C 0 rfl rfl dX12_block_99 ?_
      refine jr_bind (fun q10 e11 => ?_)
      refine jr_callVV C FX_10 km_X12_595 oS_0.1 oS_0.2 (rk hR rfl) (c_Mo_findLost (gl G) s e11) rfl rfl rfl (Nat.le_of_ble_eq_true rfl) dX12_block_100 ?_
      refine jr_aload_n C 0 rfl rfl dX12_block_103 ?_
      refine jr_getR C FX_10 74 oS_0.1 oS_0.2 ff_10_74.1 ff_10_74.2 rfl fl_X12_160 dX12_block_104 ?_
      refine jr_iload_n C 1 rfl rfl dX12_block_107 ?_
      refine jr_iald C oS_48.1 oS_48.2.1 oS_48.2.2 dX12_block_108 ?_
      exact jr_end (fun h => hr ((q10.1 48 (v1 : Int32).toNatClampNeg), q10) h _ _ dX12_block_109)
    refine jr_tabOut C dX12_block_25 (by have e0 := lv_neT h4 (a := 0) (by decide); have e1 := lv_neT h5 (a := 1) (by decide); have e2 := lv_neT h6 (a := 2) (by decide); have e3 := lv_neT h7 (a := 3) (by decide); have e4 := lv_neT h8 (a := 4) (by decide); have e5 := lv_neT h9 (a := 5) (by decide); omega) (tgt := 110) (by decide) ?_
    refine jr_iconst C ic_m1 dX12_block_110 ?_
    exact jr_end (fun h => hr ((-1), s) h _ _ dX12_block_111)
  refine jo_neg h3 ?_
  refine jr_iconst C ic_m1 dX12_block_22 ?_
  exact jr_end (fun h => hr ((-1), s) h _ _ dX12_block_23)
set_option maxRecDepth 100000 in
theorem c_Mo_block (l : Launch)  (v1 : Int32) (v2 : Int32) (s : St) {q : (Int32 × St)} (h : f_Mo_block v1 v2 s = some q) : CT SM l yX12_block cX12_block 3 (some .int) 4 96 (fun a => [.ref (a 0), .int v1, .int v2]) s q.2 (fun _ => some (.int q.1)) :=
  ct_I okX_M (by decide) (fun _ => Nat.le_of_ble_eq_true rfl) (fun G hl hR hL C hr => t_Mo_block G hR hL C (Acc := fun v => v = q)  v1 v2 s (fun v hv => by rw [hv]; exact hr) ⟨_, h, rfl⟩)
noncomputable def f_Mo_twin (v1 : Int32) (s : St) : Option (Int32 × St) :=
  if (s.1 0 19) = 0 then
  some ((-1), s)
  else
  gd 0 2 <|
  lt (s.1 22 (0 : Int32).toNatClampNeg) fun x2 =>
  (f_Mo_start 1 v1 (s.1 0 29) s).bind fun q3 =>
  (f_Mo_spend x2 q3).bind fun q5 =>
  lt (q5.1) fun x7 =>
  lt (uI (q5.2) 0 28 0) fun s8 =>
  gd 1 2 <|
  some ((s8.1 23 (1 : Int32).toNatClampNeg), s8)
set_option maxHeartbeats 4000000 in
set_option maxRecDepth 100000 in
theorem t_Mo_twin (G : GG) (hR : gR G = rmx 9 207) (hL : gL G = 4) (C : Cx SM G cX12_twin RX12) {Acc : (Int32 × St) → Prop}  (v1 : Int32) (s : St) (hr : ∀ v : (Int32 × St), Acc v → RtI SM G cX12_twin v.1 v.2) : JJ SM G Acc (f_Mo_twin v1 s) 0 [(0, .ref (ad G 0)), (1, .int v1)] [] s := by
  unfold f_Mo_twin
  refine jr_aload_n C 0 rfl rfl dX12_twin_0 ?_
  refine jr_getI C FX_10 19 oS_0.1 oS_0.2 ff_10_19.1 ff_10_19.2 fl_X12_380 dX12_twin_1 ?_
  refine jr_if_ne C (tgt := 9) dX12_twin_4 (by decide) (fun h1 => ?_) (fun h1 => ?_)
  · refine jo_neg h1 ?_
    refine jr_aload_n C 0 rfl rfl dX12_twin_9 ?_
    refine jr_getR C FX_10 39 oS_0.1 oS_0.2 ff_10_39.1 ff_10_39.2 rfl fl_X12_82 dX12_twin_10 ?_
    refine jr_iconst C ic_0 dX12_twin_13 ?_
    refine jr_iald C oS_22.1 oS_22.2.1 oS_22.2.2 dX12_twin_14 ?_
    refine jr_ltI (fun x2 => ?_)
    refine jr_istore_n C (lv' := [(2, .int x2), (0, .ref (ad G 0)), (1, .int v1)]) (ltL hL rfl) rfl rfl dX12_twin_15 ?_
    refine jr_aload_n C 1 rfl rfl dX12_twin_16 ?_
    refine jr_iconst C ic_1 dX12_twin_17 ?_
    refine jr_iload_n C 2 rfl rfl dX12_twin_18 ?_
    refine jr_aload_n C 1 rfl rfl dX12_twin_19 ?_
    refine jr_getI C FX_10 29 oS_0.1 oS_0.2 ff_10_29.1 ff_10_29.2 fl_X12_397 dX12_twin_20 ?_
    refine jr_bind (fun q3 e4 => ?_)
    refine jr_callVV C FX_10 km_X12_390 oS_0.1 oS_0.2 (rk hR rfl) (c_Mo_start (gl G) 1 v1 (s.1 0 29) s e4) rfl rfl rfl (Nat.le_of_ble_eq_true rfl) dX12_twin_23 ?_
    refine jr_aload_n C 1 rfl rfl dX12_twin_26 ?_
    refine jr_iload_n C 0 rfl rfl dX12_twin_27 ?_
    refine jr_bind (fun q5 e6 => ?_)
    refine jr_callVI C FX_10 km_X12_592 oS_0.1 oS_0.2 (rk hR rfl) (c_Mo_spend (gl G) x2 q3 e6) rfl rfl rfl (Nat.le_of_ble_eq_true rfl) dX12_twin_28 ?_
    refine jr_ltI (fun x7 => ?_)
    refine jr_istore_n C (lv' := [(3, .int x7), (2, .int x2), (0, .ref (ad G 0)), (1, .int v1)]) (ltL hL rfl) rfl rfl dX12_twin_31 ?_
    refine jr_aload_n C 2 rfl rfl dX12_twin_32 ?_
    refine jr_iconst C ic_0 dX12_twin_33 ?_
    refine jr_putI C FX_10 28 oS_0.1 oS_0.2 ff_10_28.1 ff_10_28.2 rfl rfl fl_X12_394 dX12_twin_34 (jr_ltS fun s8 => ?_)
    refine jr_aload_n C 2 rfl rfl dX12_twin_37 ?_
    refine jr_getR C FX_10 40 oS_0.1 oS_0.2 ff_10_40.1 ff_10_40.2 rfl fl_X12_85 dX12_twin_38 ?_
    refine jr_iconst C ic_1 dX12_twin_41 ?_
    refine jr_iald C oS_23.1 oS_23.2.1 oS_23.2.2 dX12_twin_42 ?_
    exact jr_end (fun h => hr ((s8.1 23 (1 : Int32).toNatClampNeg), s8) h _ _ dX12_twin_43)
  refine jo_pos h1 ?_
  refine jr_iconst C ic_m1 dX12_twin_7 ?_
  exact jr_end (fun h => hr ((-1), s) h _ _ dX12_twin_8)
set_option maxRecDepth 100000 in
theorem c_Mo_twin (l : Launch)  (v1 : Int32) (s : St) {q : (Int32 × St)} (h : f_Mo_twin v1 s = some q) : CT SM l yX12_twin cX12_twin 4 (some .int) 9 207 (fun a => [.ref (a 0), .int v1]) s q.2 (fun _ => some (.int q.1)) :=
  ct_I okX_M (by decide) (fun _ => Nat.le_of_ble_eq_true rfl) (fun G hl hR hL C hr => t_Mo_twin G hR hL C (Acc := fun v => v = q)  v1 s (fun v hv => by rw [hv]; exact hr) ⟨_, h, rfl⟩)
