noncomputable def f_Ma_tell (B : Nat) (v1 : Int32) (s : St) : Option Int32 :=
  if v1 = 0 then
  some (s.1 B 9)
  else if v1 = 1 then
  some (s.1 B 11)
  else if v1 = 2 then
  some (s.1 B 12)
  else if v1 = 3 then
  some (s.1 (B + 17) 4)
  else if v1 = 4 then
  some (s.1 (B + 17) 5)
  else if v1 = 5 then
  some (s.1 (B + 17) 6)
  else if v1 = 6 then
  some (s.1 B 18)
  else if v1 = 7 then
  some (s.1 (B + 6) 5)
  else if v1 = 8 then
  some (s.1 B 13)
  else if v1 = 9 then
  ((f_Lg_isQuiet B s).bind fun q11 =>
  if q11 = 0 then
  some 0
  else
  some 1)
  else some (-1)
set_option maxHeartbeats 4000000 in
set_option maxRecDepth 100000 in
theorem t_Ma_tell (G : GG) (hR : gR G = rmx 1 20) (hL : gL G = 2) (C : Cx SC G cX5_tell RX5) {Acc : Int32 → Prop} {B : Nat} (hB : isM B) (v1 : Int32) (s : St) (hr : ∀ v : Int32, Acc v → RtI SC G cX5_tell v s) : JJ SC G Acc (f_Ma_tell B v1 s) 0 [(0, .ref (ad G B)), (1, .int v1)] [] s := by
  unfold f_Ma_tell
  refine jr_iload_n C 1 rfl rfl dX5_tell_0 ?_
  refine jo_cases (fun h1 => ?_) (fun h1 => ?_)
  · refine jr_tabIn C dX5_tell_1 h1 (by decide) (by decide) rfl (tgt := 56) (by decide) ?_
    refine jr_aload_n C 0 rfl rfl dX5_tell_56 ?_
    refine jr_getI C FX_5 9 (oM_0 hB).1 (oM_0 hB).2 ff_5_9.1 ff_5_9.2 fl_X5_108 dX5_tell_57 ?_
    exact jr_end (fun h => hr (s.1 B 9) h _ _ dX5_tell_60)
  refine jo_cases (fun h2 => ?_) (fun h2 => ?_)
  · refine jr_tabIn C dX5_tell_1 h2 (by decide) (by decide) rfl (tgt := 61) (by decide) ?_
    refine jr_aload_n C 0 rfl rfl dX5_tell_61 ?_
    refine jr_getI C FX_5 11 (oM_0 hB).1 (oM_0 hB).2 ff_5_11.1 ff_5_11.2 fl_X5_102 dX5_tell_62 ?_
    exact jr_end (fun h => hr (s.1 B 11) h _ _ dX5_tell_65)
  refine jo_cases (fun h3 => ?_) (fun h3 => ?_)
  · refine jr_tabIn C dX5_tell_1 h3 (by decide) (by decide) rfl (tgt := 66) (by decide) ?_
    refine jr_aload_n C 0 rfl rfl dX5_tell_66 ?_
    refine jr_getI C FX_5 12 (oM_0 hB).1 (oM_0 hB).2 ff_5_12.1 ff_5_12.2 fl_X5_86 dX5_tell_67 ?_
    exact jr_end (fun h => hr (s.1 B 12) h _ _ dX5_tell_70)
  refine jo_cases (fun h4 => ?_) (fun h4 => ?_)
  · refine jr_tabIn C dX5_tell_1 h4 (by decide) (by decide) rfl (tgt := 71) (by decide) ?_
    refine jr_aload_n C 0 rfl rfl dX5_tell_71 ?_
    refine jr_getR C FX_5 4 (oM_0 hB).1 (oM_0 hB).2 ff_5_4.1 ff_5_4.2 (rM_0_4 _ hB) fl_X5_35 dX5_tell_72 ?_
    refine jr_getI C FX_4 4 (oM_17 hB).1 (oM_17 hB).2 ff_4_4.1 ff_4_4.2 fl_X5_130 dX5_tell_75 ?_
    exact jr_end (fun h => hr (s.1 (B + 17) 4) h _ _ dX5_tell_78)
  refine jo_cases (fun h5 => ?_) (fun h5 => ?_)
  · refine jr_tabIn C dX5_tell_1 h5 (by decide) (by decide) rfl (tgt := 79) (by decide) ?_
    refine jr_aload_n C 0 rfl rfl dX5_tell_79 ?_
    refine jr_getR C FX_5 4 (oM_0 hB).1 (oM_0 hB).2 ff_5_4.1 ff_5_4.2 (rM_0_4 _ hB) fl_X5_35 dX5_tell_80 ?_
    refine jr_getI C FX_4 5 (oM_17 hB).1 (oM_17 hB).2 ff_4_5.1 ff_4_5.2 fl_X5_133 dX5_tell_83 ?_
    exact jr_end (fun h => hr (s.1 (B + 17) 5) h _ _ dX5_tell_86)
  refine jo_cases (fun h6 => ?_) (fun h6 => ?_)
  · refine jr_tabIn C dX5_tell_1 h6 (by decide) (by decide) rfl (tgt := 87) (by decide) ?_
    refine jr_aload_n C 0 rfl rfl dX5_tell_87 ?_
    refine jr_getR C FX_5 4 (oM_0 hB).1 (oM_0 hB).2 ff_5_4.1 ff_5_4.2 (rM_0_4 _ hB) fl_X5_35 dX5_tell_88 ?_
    refine jr_getI C FX_4 6 (oM_17 hB).1 (oM_17 hB).2 ff_4_6.1 ff_4_6.2 fl_X5_136 dX5_tell_91 ?_
    exact jr_end (fun h => hr (s.1 (B + 17) 6) h _ _ dX5_tell_94)
  refine jo_cases (fun h7 => ?_) (fun h7 => ?_)
  · refine jr_tabIn C dX5_tell_1 h7 (by decide) (by decide) rfl (tgt := 95) (by decide) ?_
    refine jr_aload_n C 0 rfl rfl dX5_tell_95 ?_
    refine jr_getI C FX_5 18 (oM_0 hB).1 (oM_0 hB).2 ff_5_18.1 ff_5_18.2 fl_X5_99 dX5_tell_96 ?_
    exact jr_end (fun h => hr (s.1 B 18) h _ _ dX5_tell_99)
  refine jo_cases (fun h8 => ?_) (fun h8 => ?_)
  · refine jr_tabIn C dX5_tell_1 h8 (by decide) (by decide) rfl (tgt := 100) (by decide) ?_
    refine jr_aload_n C 0 rfl rfl dX5_tell_100 ?_
    refine jr_getR C FX_5 2 (oM_0 hB).1 (oM_0 hB).2 ff_5_2.1 ff_5_2.2 (rM_0_2 _ hB) fl_X5_21 dX5_tell_101 ?_
    refine jr_getI C FX_2 5 (oM_6 hB).1 (oM_6 hB).2 ff_2_5.1 ff_2_5.2 fl_X5_139 dX5_tell_104 ?_
    exact jr_end (fun h => hr (s.1 (B + 6) 5) h _ _ dX5_tell_107)
  refine jo_cases (fun h9 => ?_) (fun h9 => ?_)
  · refine jr_tabIn C dX5_tell_1 h9 (by decide) (by decide) rfl (tgt := 108) (by decide) ?_
    refine jr_aload_n C 0 rfl rfl dX5_tell_108 ?_
    refine jr_getI C FX_5 13 (oM_0 hB).1 (oM_0 hB).2 ff_5_13.1 ff_5_13.2 fl_X5_90 dX5_tell_109 ?_
    exact jr_end (fun h => hr (s.1 B 13) h _ _ dX5_tell_112)
  refine jo_cases (fun h10 => ?_) (fun h10 => ?_)
  · refine jr_tabIn C dX5_tell_1 h10 (by decide) (by decide) rfl (tgt := 113) (by decide) ?_
    refine jr_aload_n C 0 rfl rfl dX5_tell_113 ?_
    refine jr_getR C FX_5 4 (oM_0 hB).1 (oM_0 hB).2 ff_5_4.1 ff_5_4.2 (rM_0_4 _ hB) fl_X5_35 dX5_tell_114 ?_
    refine jr_bind (fun q11 e12 => ?_)
    refine jr_callVI C FX_4 km_X5_142 (oM_17 hB).1 (oM_17 hB).2 (rk hR rfl) (c_Lg_isQuiet (gl G) hB s e12) rfl rfl rfl (Nat.le_of_ble_eq_true rfl) dX5_tell_117 ?_
    refine jr_if_eq C (tgt := 127) dX5_tell_120 (by decide) (fun h13 => ?_) (fun h13 => ?_)
    · refine jo_pos h13 ?_
      refine jr_iconst C ic_0 dX5_tell_127 ?_
      exact jr_end (fun h => hr 0 h _ _ dX5_tell_128)
    refine jo_neg h13 ?_
    refine jr_iconst C ic_1 dX5_tell_123 ?_
    refine jr_goto C (tgt := 128) dX5_tell_124 (by decide) ?_
    exact jr_end (fun h => hr 1 h _ _ dX5_tell_128)
  refine jr_tabOut C dX5_tell_1 (by have e0 := lv_neT h1 (a := 0) (by decide); have e1 := lv_neT h2 (a := 1) (by decide); have e2 := lv_neT h3 (a := 2) (by decide); have e3 := lv_neT h4 (a := 3) (by decide); have e4 := lv_neT h5 (a := 4) (by decide); have e5 := lv_neT h6 (a := 5) (by decide); have e6 := lv_neT h7 (a := 6) (by decide); have e7 := lv_neT h8 (a := 7) (by decide); have e8 := lv_neT h9 (a := 8) (by decide); have e9 := lv_neT h10 (a := 9) (by decide); omega) (tgt := 129) (by decide) ?_
  refine jr_iconst C ic_m1 dX5_tell_129 ?_
  exact jr_end (fun h => hr (-1) h _ _ dX5_tell_130)
set_option maxRecDepth 100000 in
theorem c_Ma_tell (l : Launch) {B : Nat} (hB : isM B) (v1 : Int32) (s : St) {q : Int32} (h : f_Ma_tell B v1 s = some q) : CT SC l yX5_tell cX5_tell 2 (some .int) 1 20 (fun a => [.ref (a B), .int v1]) s s (fun _ => some (.int q)) :=
  ct_I okX_C (by decide) (fun _ => Nat.le_of_ble_eq_true rfl) (fun G hl hR hL C hr => t_Ma_tell G hR hL C (Acc := fun v => v = q) hB v1 s (fun v hv => by rw [hv]; exact hr) ⟨_, h, rfl⟩)
noncomputable def f_SB_state (v1 : Int32) (s : St) : Option Int32 :=
  if (s.1 0 5) = 0 then
  some (-1)
  else
  (f_Ma_tell 20 v1 s).bind fun q2 =>
  some q2
set_option maxHeartbeats 4000000 in
set_option maxRecDepth 100000 in
theorem t_SB_state (G : GG) (hR : gR G = rmx 2 41) (hL : gL G = 2) (C : Cx SC G cX11_state RX11) {Acc : Int32 → Prop}  (v1 : Int32) (s : St) (hr : ∀ v : Int32, Acc v → RtI SC G cX11_state v s) : JJ SC G Acc (f_SB_state v1 s) 0 [(0, .ref (ad G 0)), (1, .int v1)] [] s := by
  unfold f_SB_state
  refine jr_aload_n C 0 rfl rfl dX11_state_0 ?_
  refine jr_getI C FX_9 5 oC_0.1 oC_0.2 ff_9_5.1 ff_9_5.2 fl_X11_56 dX11_state_1 ?_
  refine jr_if_eq C (tgt := 18) dX11_state_4 (by decide) (fun h1 => ?_) (fun h1 => ?_)
  · refine jo_pos h1 ?_
    refine jr_iconst C ic_m1 dX11_state_18 ?_
    exact jr_end (fun h => hr (-1) h _ _ dX11_state_19)
  refine jo_neg h1 ?_
  refine jr_aload_n C 0 rfl rfl dX11_state_7 ?_
  refine jr_getR C FX_9 6 oC_0.1 oC_0.2 ff_9_6.1 ff_9_6.2 rfl fl_X11_33 dX11_state_8 ?_
  refine jr_iload_n C 1 rfl rfl dX11_state_11 ?_
  refine jr_bind (fun q2 e3 => ?_)
  refine jr_callVI C FX_5 km_X11_102 (oM_0 isM_20).1 (oM_0 isM_20).2 (rk hR rfl) (c_Ma_tell (gl G) isM_20 v1 s e3) rfl rfl rfl (Nat.le_of_ble_eq_true rfl) dX11_state_12 ?_
  refine jr_goto C (tgt := 19) dX11_state_15 (by decide) ?_
  exact jr_end (fun h => hr q2 h _ _ dX11_state_19)
set_option maxRecDepth 100000 in
theorem c_SB_state (l : Launch)  (v1 : Int32) (s : St) {q : Int32} (h : f_SB_state v1 s = some q) : CT SC l yX11_state cX11_state 2 (some .int) 2 41 (fun a => [.ref (a 0), .int v1]) s s (fun _ => some (.int q)) :=
  ct_I okX_C (by decide) (fun _ => Nat.le_of_ble_eq_true rfl) (fun G hl hR hL C hr => t_SB_state G hR hL C (Acc := fun v => v = q)  v1 s (fun v hv => by rw [hv]; exact hr) ⟨_, h, rfl⟩)
noncomputable def f_Da_tell (k : Nat) (v1 : Int32) (s : St) : Option Int32 :=
  if v1 = 0 then
  some (s.1 k 0)
  else if v1 = 1 then
  some (s.1 k 1)
  else if v1 = 2 then
  some (s.1 k 2)
  else some (-1)
set_option maxHeartbeats 4000000 in
set_option maxRecDepth 100000 in
theorem t_Da_tell (G : GG) (hR : gR G = rmx 0 0) (hL : gL G = 2) (C : Cx SC G cX1_tell RX1) {Acc : Int32 → Prop} {k : Nat} (hk : isD k) (v1 : Int32) (s : St) (hr : ∀ v : Int32, Acc v → RtI SC G cX1_tell v s) : JJ SC G Acc (f_Da_tell k v1 s) 0 [(0, .ref (ad G k)), (1, .int v1)] [] s := by
  unfold f_Da_tell
  refine jr_iload_n C 1 rfl rfl dX1_tell_0 ?_
  refine jo_cases (fun h1 => ?_) (fun h1 => ?_)
  · refine jr_tabIn C dX1_tell_1 h1 (by decide) (by decide) rfl (tgt := 28) (by decide) ?_
    refine jr_aload_n C 0 rfl rfl dX1_tell_28 ?_
    refine jr_getI C FX_1 0 (oD hk).1 (oD hk).2 ff_1_0.1 ff_1_0.2 fl_X1_9 dX1_tell_29 ?_
    exact jr_end (fun h => hr (s.1 k 0) h _ _ dX1_tell_32)
  refine jo_cases (fun h2 => ?_) (fun h2 => ?_)
  · refine jr_tabIn C dX1_tell_1 h2 (by decide) (by decide) rfl (tgt := 33) (by decide) ?_
    refine jr_aload_n C 0 rfl rfl dX1_tell_33 ?_
    refine jr_getI C FX_1 1 (oD hk).1 (oD hk).2 ff_1_1.1 ff_1_1.2 fl_X1_15 dX1_tell_34 ?_
    exact jr_end (fun h => hr (s.1 k 1) h _ _ dX1_tell_37)
  refine jo_cases (fun h3 => ?_) (fun h3 => ?_)
  · refine jr_tabIn C dX1_tell_1 h3 (by decide) (by decide) rfl (tgt := 38) (by decide) ?_
    refine jr_aload_n C 0 rfl rfl dX1_tell_38 ?_
    refine jr_getI C FX_1 2 (oD hk).1 (oD hk).2 ff_1_2.1 ff_1_2.2 fl_X1_18 dX1_tell_39 ?_
    exact jr_end (fun h => hr (s.1 k 2) h _ _ dX1_tell_42)
  refine jr_tabOut C dX1_tell_1 (by have e0 := lv_neT h1 (a := 0) (by decide); have e1 := lv_neT h2 (a := 1) (by decide); have e2 := lv_neT h3 (a := 2) (by decide); omega) (tgt := 43) (by decide) ?_
  refine jr_iconst C ic_m1 dX1_tell_43 ?_
  exact jr_end (fun h => hr (-1) h _ _ dX1_tell_44)
set_option maxRecDepth 100000 in
theorem c_Da_tell (l : Launch) {k : Nat} (hk : isD k) (v1 : Int32) (s : St) {q : Int32} (h : f_Da_tell k v1 s = some q) : CT SC l yX1_tell cX1_tell 2 (some .int) 0 0 (fun a => [.ref (a k), .int v1]) s s (fun _ => some (.int q)) :=
  ct_I okX_C (by decide) (fun _ => Nat.le_of_ble_eq_true rfl) (fun G hl hR hL C hr => t_Da_tell G hR hL C (Acc := fun v => v = q) hk v1 s (fun v hv => by rw [hv]; exact hr) ⟨_, h, rfl⟩)
noncomputable def f_SB_register (v1 : Int32) (v2 : Int32) (s : St) : Option Int32 :=
  if (s.1 0 5) = 0 then
  some (-1)
  else
  if v1 < 0 then
  some (-1)
  else
  if v1 < 8 then
  (gd v1 8 <|
  (f_Da_tell (20 + 26 + (v1 : Int32).toNatClampNeg) v2 s).bind fun q5 =>
  some q5)
  else
  some (-1)
set_option maxHeartbeats 4000000 in
set_option maxRecDepth 100000 in
theorem t_SB_register (G : GG) (hR : gR G = rmx 1 21) (hL : gL G = 3) (C : Cx SC G cX11_register RX11) {Acc : Int32 → Prop}  (v1 : Int32) (v2 : Int32) (s : St) (hr : ∀ v : Int32, Acc v → RtI SC G cX11_register v s) : JJ SC G Acc (f_SB_register v1 v2 s) 0 [(0, .ref (ad G 0)), (1, .int v1), (2, .int v2)] [] s := by
  unfold f_SB_register
  refine jr_aload_n C 0 rfl rfl dX11_register_0 ?_
  refine jr_getI C FX_9 5 oC_0.1 oC_0.2 ff_9_5.1 ff_9_5.2 fl_X11_56 dX11_register_1 ?_
  refine jr_if_eq C (tgt := 17) dX11_register_4 (by decide) (fun h1 => ?_) (fun h1 => ?_)
  · refine jo_pos h1 ?_
    refine jr_iconst C ic_m1 dX11_register_17 ?_
    exact jr_end (fun h => hr (-1) h _ _ dX11_register_18)
  refine jo_neg h1 ?_
  refine jr_iload_n C 1 rfl rfl dX11_register_7 ?_
  refine jr_if_lt C (tgt := 17) dX11_register_8 (by decide) (fun h2 => ?_) (fun h2 => ?_)
  · refine jo_pos h2 ?_
    refine jr_iconst C ic_m1 dX11_register_17 ?_
    exact jr_end (fun h => hr (-1) h _ _ dX11_register_18)
  refine jo_neg h2 ?_
  refine jr_iload_n C 1 rfl rfl dX11_register_11 ?_
  refine jr_bipush C bp_8 dX11_register_12 ?_
  refine jr_icmp_lt C (tgt := 19) dX11_register_14 (by decide) (fun h3 => ?_) (fun h3 => ?_)
  · refine jo_pos h3 ?_
    refine jr_aload_n C 0 rfl rfl dX11_register_19 ?_
    refine jr_getR C FX_9 6 oC_0.1 oC_0.2 ff_9_6.1 ff_9_6.2 rfl fl_X11_33 dX11_register_20 ?_
    refine jr_getR C FX_5 5 (oM_0 isM_20).1 (oM_0 isM_20).2 ff_5_5.1 ff_5_5.2 (rM_0_5 _ isM_20) fl_X11_105 dX11_register_23 ?_
    refine jr_iload_n C 1 rfl rfl dX11_register_26 ?_
    refine jr_aald C (oM_25 isM_20).1 (oM_25 isM_20).2.1 (oM_25 isM_20).2.2 (fun _ => rM_r _ isM_20) dX11_register_27 (fun h4 => ?_)
    refine jr_iload_n C 2 rfl rfl dX11_register_28 ?_
    refine jr_bind (fun q5 e6 => ?_)
    refine jr_callVI C FX_1 km_X11_109 (oD (dM_r isM_20 h4)).1 (oD (dM_r isM_20 h4)).2 (rk hR rfl) (c_Da_tell (gl G) (dM_r isM_20 h4) v2 s e6) rfl rfl rfl (Nat.le_of_ble_eq_true rfl) dX11_register_29 ?_
    exact jr_end (fun h => hr q5 h _ _ dX11_register_32)
  refine jo_neg h3 ?_
  refine jr_iconst C ic_m1 dX11_register_17 ?_
  exact jr_end (fun h => hr (-1) h _ _ dX11_register_18)
set_option maxRecDepth 100000 in
theorem c_SB_register (l : Launch)  (v1 : Int32) (v2 : Int32) (s : St) {q : Int32} (h : f_SB_register v1 v2 s = some q) : CT SC l yX11_register cX11_register 3 (some .int) 1 21 (fun a => [.ref (a 0), .int v1, .int v2]) s s (fun _ => some (.int q)) :=
  ct_I okX_C (by decide) (fun _ => Nat.le_of_ble_eq_true rfl) (fun G hl hR hL C hr => t_SB_register G hR hL C (Acc := fun v => v = q)  v1 v2 s (fun v hv => by rw [hv]; exact hr) ⟨_, h, rfl⟩)
noncomputable def f_Me_tell (B : Nat) (v1 : Int32) (v2 : Int32) (s : St) : Option Int32 :=
  if (f_Me_isByte v1) = 0 then
  some (-1)
  else
  if v2 = 0 then
  (gd v1 4096 <|
  some (s.1 (B + 2) (v1 : Int32).toNatClampNeg))
  else if v2 = 1 then
  (gd v1 4096 <|
  some (s.1 (B + 3) (v1 : Int32).toNatClampNeg))
  else if v2 = 2 then
  (gd v1 4096 <|
  some (s.1 (B + 4) (v1 : Int32).toNatClampNeg))
  else if v2 = 3 then
  (gd v1 4096 <|
  if (s.1 (B + 5) (v1 : Int32).toNatClampNeg) = 0 then
  some 0
  else
  some 1)
  else some (-1)
set_option maxHeartbeats 4000000 in
set_option maxRecDepth 100000 in
theorem t_Me_tell (G : GG) (hR : gR G = rmx 1 20) (hL : gL G = 3) (C : Cx SC G cX6_tell RX6) {Acc : Int32 → Prop} {B : Nat} (hB : isM B) (v1 : Int32) (v2 : Int32) (s : St) (hr : ∀ v : Int32, Acc v → RtI SC G cX6_tell v s) : JJ SC G Acc (f_Me_tell B v1 v2 s) 0 [(0, .ref (ad G (B + 1))), (1, .int v1), (2, .int v2)] [] s := by
  unfold f_Me_tell
  refine jr_iload_n C 1 rfl rfl dX6_tell_0 ?_
  refine jr_callSI C km_X6_35 (rk hR rfl) (c_Me_isByte (gl G) isM_20 v1 s) rfl rfl rfl (Nat.le_of_ble_eq_true rfl) dX6_tell_1 ?_
  refine jr_if_ne C (tgt := 9) dX6_tell_4 (by decide) (fun h1 => ?_) (fun h1 => ?_)
  · refine jo_neg h1 ?_
    refine jr_iload_n C 2 rfl rfl dX6_tell_9 ?_
    refine jo_cases (fun h2 => ?_) (fun h2 => ?_)
    · refine jr_tabIn C dX6_tell_10 h2 (by decide) (by decide) rfl (tgt := 40) (by decide) ?_
      refine jr_aload_n C 0 rfl rfl dX6_tell_40 ?_
      refine jr_getR C FX_6 0 (oM_1 hB).1 (oM_1 hB).2 ff_6_0.1 ff_6_0.2 (rM_1_0 _ hB) fl_X6_11 dX6_tell_41 ?_
      refine jr_iload_n C 1 rfl rfl dX6_tell_44 ?_
      refine jr_iald C (oM_2 hB).1 (oM_2 hB).2.1 (oM_2 hB).2.2 dX6_tell_45 ?_
      exact jr_end (fun h => hr (s.1 (B + 2) (v1 : Int32).toNatClampNeg) h _ _ dX6_tell_46)
    refine jo_cases (fun h3 => ?_) (fun h3 => ?_)
    · refine jr_tabIn C dX6_tell_10 h3 (by decide) (by decide) rfl (tgt := 47) (by decide) ?_
      refine jr_aload_n C 0 rfl rfl dX6_tell_47 ?_
      refine jr_getR C FX_6 1 (oM_1 hB).1 (oM_1 hB).2 ff_6_1.1 ff_6_1.2 (rM_1_1 _ hB) fl_X6_15 dX6_tell_48 ?_
      refine jr_iload_n C 1 rfl rfl dX6_tell_51 ?_
      refine jr_iald C (oM_3 hB).1 (oM_3 hB).2.1 (oM_3 hB).2.2 dX6_tell_52 ?_
      exact jr_end (fun h => hr (s.1 (B + 3) (v1 : Int32).toNatClampNeg) h _ _ dX6_tell_53)
    refine jo_cases (fun h4 => ?_) (fun h4 => ?_)
    · refine jr_tabIn C dX6_tell_10 h4 (by decide) (by decide) rfl (tgt := 54) (by decide) ?_
      refine jr_aload_n C 0 rfl rfl dX6_tell_54 ?_
      refine jr_getR C FX_6 2 (oM_1 hB).1 (oM_1 hB).2 ff_6_2.1 ff_6_2.2 (rM_1_2 _ hB) fl_X6_18 dX6_tell_55 ?_
      refine jr_iload_n C 1 rfl rfl dX6_tell_58 ?_
      refine jr_iald C (oM_4 hB).1 (oM_4 hB).2.1 (oM_4 hB).2.2 dX6_tell_59 ?_
      exact jr_end (fun h => hr (s.1 (B + 4) (v1 : Int32).toNatClampNeg) h _ _ dX6_tell_60)
    refine jo_cases (fun h5 => ?_) (fun h5 => ?_)
    · refine jr_tabIn C dX6_tell_10 h5 (by decide) (by decide) rfl (tgt := 61) (by decide) ?_
      refine jr_aload_n C 0 rfl rfl dX6_tell_61 ?_
      refine jr_getR C FX_6 3 (oM_1 hB).1 (oM_1 hB).2 ff_6_3.1 ff_6_3.2 (rM_1_3 _ hB) fl_X6_21 dX6_tell_62 ?_
      refine jr_iload_n C 1 rfl rfl dX6_tell_65 ?_
      refine jr_zald C (oM_5 hB).1 (oM_5 hB).2.1 (oM_5 hB).2.2 dX6_tell_66 ?_
      refine jr_if_eq C (tgt := 74) dX6_tell_67 (by decide) (fun h6 => ?_) (fun h6 => ?_)
      · refine jo_pos h6 ?_
        refine jr_iconst C ic_0 dX6_tell_74 ?_
        exact jr_end (fun h => hr 0 h _ _ dX6_tell_75)
      refine jo_neg h6 ?_
      refine jr_iconst C ic_1 dX6_tell_70 ?_
      refine jr_goto C (tgt := 75) dX6_tell_71 (by decide) ?_
      exact jr_end (fun h => hr 1 h _ _ dX6_tell_75)
    refine jr_tabOut C dX6_tell_10 (by have e0 := lv_neT h2 (a := 0) (by decide); have e1 := lv_neT h3 (a := 1) (by decide); have e2 := lv_neT h4 (a := 2) (by decide); have e3 := lv_neT h5 (a := 3) (by decide); omega) (tgt := 76) (by decide) ?_
    refine jr_iconst C ic_m1 dX6_tell_76 ?_
    exact jr_end (fun h => hr (-1) h _ _ dX6_tell_77)
  refine jo_pos h1 ?_
  refine jr_iconst C ic_m1 dX6_tell_7 ?_
  exact jr_end (fun h => hr (-1) h _ _ dX6_tell_8)
set_option maxRecDepth 100000 in
theorem c_Me_tell (l : Launch) {B : Nat} (hB : isM B) (v1 : Int32) (v2 : Int32) (s : St) {q : Int32} (h : f_Me_tell B v1 v2 s = some q) : CT SC l yX6_tell cX6_tell 3 (some .int) 1 20 (fun a => [.ref (a (B + 1)), .int v1, .int v2]) s s (fun _ => some (.int q)) :=
  ct_I okX_C (by decide) (fun _ => Nat.le_of_ble_eq_true rfl) (fun G hl hR hL C hr => t_Me_tell G hR hL C (Acc := fun v => v = q) hB v1 v2 s (fun v hv => by rw [hv]; exact hr) ⟨_, h, rfl⟩)
noncomputable def f_SB_memory (v1 : Int32) (v2 : Int32) (s : St) : Option Int32 :=
  if (s.1 0 5) = 0 then
  some (-1)
  else
  (f_Me_tell 20 v1 v2 s).bind fun q2 =>
  some q2
set_option maxHeartbeats 4000000 in
set_option maxRecDepth 100000 in
theorem t_SB_memory (G : GG) (hR : gR G = rmx 2 42) (hL : gL G = 3) (C : Cx SC G cX11_memory RX11) {Acc : Int32 → Prop}  (v1 : Int32) (v2 : Int32) (s : St) (hr : ∀ v : Int32, Acc v → RtI SC G cX11_memory v s) : JJ SC G Acc (f_SB_memory v1 v2 s) 0 [(0, .ref (ad G 0)), (1, .int v1), (2, .int v2)] [] s := by
  unfold f_SB_memory
  refine jr_aload_n C 0 rfl rfl dX11_memory_0 ?_
  refine jr_getI C FX_9 5 oC_0.1 oC_0.2 ff_9_5.1 ff_9_5.2 fl_X11_56 dX11_memory_1 ?_
  refine jr_if_eq C (tgt := 22) dX11_memory_4 (by decide) (fun h1 => ?_) (fun h1 => ?_)
  · refine jo_pos h1 ?_
    refine jr_iconst C ic_m1 dX11_memory_22 ?_
    exact jr_end (fun h => hr (-1) h _ _ dX11_memory_23)
  refine jo_neg h1 ?_
  refine jr_aload_n C 0 rfl rfl dX11_memory_7 ?_
  refine jr_getR C FX_9 6 oC_0.1 oC_0.2 ff_9_6.1 ff_9_6.2 rfl fl_X11_33 dX11_memory_8 ?_
  refine jr_getR C FX_5 1 (oM_0 isM_20).1 (oM_0 isM_20).2 ff_5_1.1 ff_5_1.2 (rM_0_1 _ isM_20) fl_X11_112 dX11_memory_11 ?_
  refine jr_iload_n C 1 rfl rfl dX11_memory_14 ?_
  refine jr_iload_n C 2 rfl rfl dX11_memory_15 ?_
  refine jr_bind (fun q2 e3 => ?_)
  refine jr_callVI C FX_6 km_X11_116 (oM_1 isM_20).1 (oM_1 isM_20).2 (rk hR rfl) (c_Me_tell (gl G) isM_20 v1 v2 s e3) rfl rfl rfl (Nat.le_of_ble_eq_true rfl) dX11_memory_16 ?_
  refine jr_goto C (tgt := 23) dX11_memory_19 (by decide) ?_
  exact jr_end (fun h => hr q2 h _ _ dX11_memory_23)
set_option maxRecDepth 100000 in
theorem c_SB_memory (l : Launch)  (v1 : Int32) (v2 : Int32) (s : St) {q : Int32} (h : f_SB_memory v1 v2 s = some q) : CT SC l yX11_memory cX11_memory 3 (some .int) 2 42 (fun a => [.ref (a 0), .int v1, .int v2]) s s (fun _ => some (.int q)) :=
  ct_I okX_C (by decide) (fun _ => Nat.le_of_ble_eq_true rfl) (fun G hl hR hL C hr => t_SB_memory G hR hL C (Acc := fun v => v = q)  v1 v2 s (fun v hv => by rw [hv]; exact hr) ⟨_, h, rfl⟩)
noncomputable def f_Lg_tell (B : Nat) (v1 : Int32) (v2 : Int32) (s : St) : Option Int32 :=
  if v1 < 0 then
  some (-1)
  else
  if v1 < (s.1 (B + 17) 4) then
  (if v2 = 0 then
  (gd v1 60 <|
  some (s.1 (B + 18) (v1 : Int32).toNatClampNeg))
  else if v2 = 1 then
  (gd v1 60 <|
  some (s.1 (B + 19) (v1 : Int32).toNatClampNeg))
  else if v2 = 2 then
  (gd v1 60 <|
  some (s.1 (B + 20) (v1 : Int32).toNatClampNeg))
  else if v2 = 3 then
  (gd v1 60 <|
  some (s.1 (B + 21) (v1 : Int32).toNatClampNeg))
  else some (-1))
  else
  some (-1)
set_option maxHeartbeats 4000000 in
set_option maxRecDepth 100000 in
theorem t_Lg_tell (G : GG) (hR : gR G = rmx 0 0) (hL : gL G = 3) (C : Cx SC G cX4_tell RX4) {Acc : Int32 → Prop} {B : Nat} (hB : isM B) (v1 : Int32) (v2 : Int32) (s : St) (hr : ∀ v : Int32, Acc v → RtI SC G cX4_tell v s) : JJ SC G Acc (f_Lg_tell B v1 v2 s) 0 [(0, .ref (ad G (B + 17))), (1, .int v1), (2, .int v2)] [] s := by
  unfold f_Lg_tell
  refine jr_iload_n C 1 rfl rfl dX4_tell_0 ?_
  refine jr_if_lt C (tgt := 12) dX4_tell_1 (by decide) (fun h1 => ?_) (fun h1 => ?_)
  · refine jo_pos h1 ?_
    refine jr_iconst C ic_m1 dX4_tell_12 ?_
    exact jr_end (fun h => hr (-1) h _ _ dX4_tell_13)
  refine jo_neg h1 ?_
  refine jr_iload_n C 1 rfl rfl dX4_tell_4 ?_
  refine jr_aload_n C 0 rfl rfl dX4_tell_5 ?_
  refine jr_getI C FX_4 4 (oM_17 hB).1 (oM_17 hB).2 ff_4_4.1 ff_4_4.2 fl_X4_33 dX4_tell_6 ?_
  refine jr_icmp_lt C (tgt := 14) dX4_tell_9 (by decide) (fun h2 => ?_) (fun h2 => ?_)
  · refine jo_pos h2 ?_
    refine jr_iload_n C 2 rfl rfl dX4_tell_14 ?_
    refine jo_cases (fun h3 => ?_) (fun h3 => ?_)
    · refine jr_tabIn C dX4_tell_15 h3 (by decide) (by decide) rfl (tgt := 44) (by decide) ?_
      refine jr_aload_n C 0 rfl rfl dX4_tell_44 ?_
      refine jr_getR C FX_4 0 (oM_17 hB).1 (oM_17 hB).2 ff_4_0.1 ff_4_0.2 (rM_17_0 _ hB) fl_X4_11 dX4_tell_45 ?_
      refine jr_iload_n C 1 rfl rfl dX4_tell_48 ?_
      refine jr_iald C (oM_18 hB).1 (oM_18 hB).2.1 (oM_18 hB).2.2 dX4_tell_49 ?_
      exact jr_end (fun h => hr (s.1 (B + 18) (v1 : Int32).toNatClampNeg) h _ _ dX4_tell_50)
    refine jo_cases (fun h4 => ?_) (fun h4 => ?_)
    · refine jr_tabIn C dX4_tell_15 h4 (by decide) (by decide) rfl (tgt := 51) (by decide) ?_
      refine jr_aload_n C 0 rfl rfl dX4_tell_51 ?_
      refine jr_getR C FX_4 1 (oM_17 hB).1 (oM_17 hB).2 ff_4_1.1 ff_4_1.2 (rM_17_1 _ hB) fl_X4_15 dX4_tell_52 ?_
      refine jr_iload_n C 1 rfl rfl dX4_tell_55 ?_
      refine jr_iald C (oM_19 hB).1 (oM_19 hB).2.1 (oM_19 hB).2.2 dX4_tell_56 ?_
      exact jr_end (fun h => hr (s.1 (B + 19) (v1 : Int32).toNatClampNeg) h _ _ dX4_tell_57)
    refine jo_cases (fun h5 => ?_) (fun h5 => ?_)
    · refine jr_tabIn C dX4_tell_15 h5 (by decide) (by decide) rfl (tgt := 58) (by decide) ?_
      refine jr_aload_n C 0 rfl rfl dX4_tell_58 ?_
      refine jr_getR C FX_4 2 (oM_17 hB).1 (oM_17 hB).2 ff_4_2.1 ff_4_2.2 (rM_17_2 _ hB) fl_X4_18 dX4_tell_59 ?_
      refine jr_iload_n C 1 rfl rfl dX4_tell_62 ?_
      refine jr_iald C (oM_20 hB).1 (oM_20 hB).2.1 (oM_20 hB).2.2 dX4_tell_63 ?_
      exact jr_end (fun h => hr (s.1 (B + 20) (v1 : Int32).toNatClampNeg) h _ _ dX4_tell_64)
    refine jo_cases (fun h6 => ?_) (fun h6 => ?_)
    · refine jr_tabIn C dX4_tell_15 h6 (by decide) (by decide) rfl (tgt := 65) (by decide) ?_
      refine jr_aload_n C 0 rfl rfl dX4_tell_65 ?_
      refine jr_getR C FX_4 3 (oM_17 hB).1 (oM_17 hB).2 ff_4_3.1 ff_4_3.2 (rM_17_3 _ hB) fl_X4_21 dX4_tell_66 ?_
      refine jr_iload_n C 1 rfl rfl dX4_tell_69 ?_
      refine jr_iald C (oM_21 hB).1 (oM_21 hB).2.1 (oM_21 hB).2.2 dX4_tell_70 ?_
      exact jr_end (fun h => hr (s.1 (B + 21) (v1 : Int32).toNatClampNeg) h _ _ dX4_tell_71)
    refine jr_tabOut C dX4_tell_15 (by have e0 := lv_neT h3 (a := 0) (by decide); have e1 := lv_neT h4 (a := 1) (by decide); have e2 := lv_neT h5 (a := 2) (by decide); have e3 := lv_neT h6 (a := 3) (by decide); omega) (tgt := 72) (by decide) ?_
    refine jr_iconst C ic_m1 dX4_tell_72 ?_
    exact jr_end (fun h => hr (-1) h _ _ dX4_tell_73)
  refine jo_neg h2 ?_
  refine jr_iconst C ic_m1 dX4_tell_12 ?_
  exact jr_end (fun h => hr (-1) h _ _ dX4_tell_13)
set_option maxRecDepth 100000 in
theorem c_Lg_tell (l : Launch) {B : Nat} (hB : isM B) (v1 : Int32) (v2 : Int32) (s : St) {q : Int32} (h : f_Lg_tell B v1 v2 s = some q) : CT SC l yX4_tell cX4_tell 3 (some .int) 0 0 (fun a => [.ref (a (B + 17)), .int v1, .int v2]) s s (fun _ => some (.int q)) :=
  ct_I okX_C (by decide) (fun _ => Nat.le_of_ble_eq_true rfl) (fun G hl hR hL C hr => t_Lg_tell G hR hL C (Acc := fun v => v = q) hB v1 v2 s (fun v hv => by rw [hv]; exact hr) ⟨_, h, rfl⟩)
noncomputable def f_SB_report (v1 : Int32) (v2 : Int32) (s : St) : Option Int32 :=
  if (s.1 0 5) = 0 then
  some (-1)
  else
  (f_Lg_tell 20 v1 v2 s).bind fun q2 =>
  some q2
set_option maxHeartbeats 4000000 in
set_option maxRecDepth 100000 in
theorem t_SB_report (G : GG) (hR : gR G = rmx 1 22) (hL : gL G = 3) (C : Cx SC G cX11_report RX11) {Acc : Int32 → Prop}  (v1 : Int32) (v2 : Int32) (s : St) (hr : ∀ v : Int32, Acc v → RtI SC G cX11_report v s) : JJ SC G Acc (f_SB_report v1 v2 s) 0 [(0, .ref (ad G 0)), (1, .int v1), (2, .int v2)] [] s := by
  unfold f_SB_report
  refine jr_aload_n C 0 rfl rfl dX11_report_0 ?_
  refine jr_getI C FX_9 5 oC_0.1 oC_0.2 ff_9_5.1 ff_9_5.2 fl_X11_56 dX11_report_1 ?_
  refine jr_if_eq C (tgt := 22) dX11_report_4 (by decide) (fun h1 => ?_) (fun h1 => ?_)
  · refine jo_pos h1 ?_
    refine jr_iconst C ic_m1 dX11_report_22 ?_
    exact jr_end (fun h => hr (-1) h _ _ dX11_report_23)
  refine jo_neg h1 ?_
  refine jr_aload_n C 0 rfl rfl dX11_report_7 ?_
  refine jr_getR C FX_9 6 oC_0.1 oC_0.2 ff_9_6.1 ff_9_6.2 rfl fl_X11_33 dX11_report_8 ?_
  refine jr_getR C FX_5 4 (oM_0 isM_20).1 (oM_0 isM_20).2 ff_5_4.1 ff_5_4.2 (rM_0_4 _ isM_20) fl_X11_60 dX11_report_11 ?_
  refine jr_iload_n C 1 rfl rfl dX11_report_14 ?_
  refine jr_iload_n C 2 rfl rfl dX11_report_15 ?_
  refine jr_bind (fun q2 e3 => ?_)
  refine jr_callVI C FX_4 km_X11_120 (oM_17 isM_20).1 (oM_17 isM_20).2 (rk hR rfl) (c_Lg_tell (gl G) isM_20 v1 v2 s e3) rfl rfl rfl (Nat.le_of_ble_eq_true rfl) dX11_report_16 ?_
  refine jr_goto C (tgt := 23) dX11_report_19 (by decide) ?_
  exact jr_end (fun h => hr q2 h _ _ dX11_report_23)
set_option maxRecDepth 100000 in
theorem c_SB_report (l : Launch)  (v1 : Int32) (v2 : Int32) (s : St) {q : Int32} (h : f_SB_report v1 v2 s = some q) : CT SC l yX11_report cX11_report 3 (some .int) 1 22 (fun a => [.ref (a 0), .int v1, .int v2]) s s (fun _ => some (.int q)) :=
  ct_I okX_C (by decide) (fun _ => Nat.le_of_ble_eq_true rfl) (fun G hl hR hL C hr => t_SB_report G hR hL C (Acc := fun v => v = q)  v1 v2 s (fun v hv => by rw [hv]; exact hr) ⟨_, h, rfl⟩)
noncomputable def f_Ma_outputAt (B : Nat) (v1 : Int32) (s : St) : Option Int32 :=
  if v1 < 0 then
  some (-1)
  else
  if 100 ≤ v1 then
  some (-1)
  else
  if (s.1 B 18) ≤ v1 then
  some (-1)
  else
  gd v1 100 <|
  some (s.1 (B + 37) (v1 : Int32).toNatClampNeg)
set_option maxHeartbeats 4000000 in
set_option maxRecDepth 100000 in
theorem t_Ma_outputAt (G : GG) (hR : gR G = rmx 0 0) (hL : gL G = 2) (C : Cx SC G cX5_outputAt RX5) {Acc : Int32 → Prop} {B : Nat} (hB : isM B) (v1 : Int32) (s : St) (hr : ∀ v : Int32, Acc v → RtI SC G cX5_outputAt v s) : JJ SC G Acc (f_Ma_outputAt B v1 s) 0 [(0, .ref (ad G B)), (1, .int v1)] [] s := by
  unfold f_Ma_outputAt
  refine jr_iload_n C 1 rfl rfl dX5_outputAt_0 ?_
  refine jr_if_lt C (tgt := 27) dX5_outputAt_1 (by decide) (fun h1 => ?_) (fun h1 => ?_)
  · refine jo_pos h1 ?_
    refine jr_iconst C ic_m1 dX5_outputAt_27 ?_
    exact jr_end (fun h => hr (-1) h _ _ dX5_outputAt_28)
  refine jo_neg h1 ?_
  refine jr_iload_n C 1 rfl rfl dX5_outputAt_4 ?_
  refine jr_bipush C bp_100 dX5_outputAt_5 ?_
  refine jr_icmp_ge C (tgt := 27) dX5_outputAt_7 (by decide) (fun h2 => ?_) (fun h2 => ?_)
  · refine jo_pos h2 ?_
    refine jr_iconst C ic_m1 dX5_outputAt_27 ?_
    exact jr_end (fun h => hr (-1) h _ _ dX5_outputAt_28)
  refine jo_neg h2 ?_
  refine jr_iload_n C 1 rfl rfl dX5_outputAt_10 ?_
  refine jr_aload_n C 0 rfl rfl dX5_outputAt_11 ?_
  refine jr_getI C FX_5 18 (oM_0 hB).1 (oM_0 hB).2 ff_5_18.1 ff_5_18.2 fl_X5_99 dX5_outputAt_12 ?_
  refine jr_icmp_ge C (tgt := 27) dX5_outputAt_15 (by decide) (fun h3 => ?_) (fun h3 => ?_)
  · refine jo_pos h3 ?_
    refine jr_iconst C ic_m1 dX5_outputAt_27 ?_
    exact jr_end (fun h => hr (-1) h _ _ dX5_outputAt_28)
  refine jo_neg h3 ?_
  refine jr_aload_n C 0 rfl rfl dX5_outputAt_18 ?_
  refine jr_getR C FX_5 17 (oM_0 hB).1 (oM_0 hB).2 ff_5_17.1 ff_5_17.2 (rM_0_17 _ hB) fl_X5_57 dX5_outputAt_19 ?_
  refine jr_iload_n C 1 rfl rfl dX5_outputAt_22 ?_
  refine jr_iald C (oM_37 hB).1 (oM_37 hB).2.1 (oM_37 hB).2.2 dX5_outputAt_23 ?_
  refine jr_goto C (tgt := 28) dX5_outputAt_24 (by decide) ?_
  exact jr_end (fun h => hr (s.1 (B + 37) (v1 : Int32).toNatClampNeg) h _ _ dX5_outputAt_28)
set_option maxRecDepth 100000 in
theorem c_Ma_outputAt (l : Launch) {B : Nat} (hB : isM B) (v1 : Int32) (s : St) {q : Int32} (h : f_Ma_outputAt B v1 s = some q) : CT SC l yX5_outputAt cX5_outputAt 2 (some .int) 0 0 (fun a => [.ref (a B), .int v1]) s s (fun _ => some (.int q)) :=
  ct_I okX_C (by decide) (fun _ => Nat.le_of_ble_eq_true rfl) (fun G hl hR hL C hr => t_Ma_outputAt G hR hL C (Acc := fun v => v = q) hB v1 s (fun v hv => by rw [hv]; exact hr) ⟨_, h, rfl⟩)
noncomputable def f_SB_output (v1 : Int32) (s : St) : Option Int32 :=
  if (s.1 0 5) = 0 then
  some (-1)
  else
  (f_Ma_outputAt 20 v1 s).bind fun q2 =>
  some q2
set_option maxHeartbeats 4000000 in
set_option maxRecDepth 100000 in
theorem t_SB_output (G : GG) (hR : gR G = rmx 1 21) (hL : gL G = 2) (C : Cx SC G cX11_output RX11) {Acc : Int32 → Prop}  (v1 : Int32) (s : St) (hr : ∀ v : Int32, Acc v → RtI SC G cX11_output v s) : JJ SC G Acc (f_SB_output v1 s) 0 [(0, .ref (ad G 0)), (1, .int v1)] [] s := by
  unfold f_SB_output
  refine jr_aload_n C 0 rfl rfl dX11_output_0 ?_
  refine jr_getI C FX_9 5 oC_0.1 oC_0.2 ff_9_5.1 ff_9_5.2 fl_X11_56 dX11_output_1 ?_
  refine jr_if_eq C (tgt := 18) dX11_output_4 (by decide) (fun h1 => ?_) (fun h1 => ?_)
  · refine jo_pos h1 ?_
    refine jr_iconst C ic_m1 dX11_output_18 ?_
    exact jr_end (fun h => hr (-1) h _ _ dX11_output_19)
  refine jo_neg h1 ?_
  refine jr_aload_n C 0 rfl rfl dX11_output_7 ?_
  refine jr_getR C FX_9 6 oC_0.1 oC_0.2 ff_9_6.1 ff_9_6.2 rfl fl_X11_33 dX11_output_8 ?_
  refine jr_iload_n C 1 rfl rfl dX11_output_11 ?_
  refine jr_bind (fun q2 e3 => ?_)
  refine jr_callVI C FX_5 km_X11_121 (oM_0 isM_20).1 (oM_0 isM_20).2 (rk hR rfl) (c_Ma_outputAt (gl G) isM_20 v1 s e3) rfl rfl rfl (Nat.le_of_ble_eq_true rfl) dX11_output_12 ?_
  refine jr_goto C (tgt := 19) dX11_output_15 (by decide) ?_
  exact jr_end (fun h => hr q2 h _ _ dX11_output_19)
set_option maxRecDepth 100000 in
theorem c_SB_output (l : Launch)  (v1 : Int32) (s : St) {q : Int32} (h : f_SB_output v1 s = some q) : CT SC l yX11_output cX11_output 2 (some .int) 1 21 (fun a => [.ref (a 0), .int v1]) s s (fun _ => some (.int q)) :=
  ct_I okX_C (by decide) (fun _ => Nat.le_of_ble_eq_true rfl) (fun G hl hR hL C hr => t_SB_output G hR hL C (Acc := fun v => v = q)  v1 s (fun v hv => by rw [hv]; exact hr) ⟨_, h, rfl⟩)
noncomputable def f_He_tell (B : Nat) (v1 : Int32) (v2 : Int32) (s : St) : Option Int32 :=
  if v1 < 1 then
  some (-1)
  else
  if v1 ≤ (s.1 (B + 6) 5) then
  (if v2 = 0 then
  (gd v1 101 <|
  some (s.1 (B + 7) (v1 : Int32).toNatClampNeg))
  else if v2 = 1 then
  (gd v1 101 <|
  some (s.1 (B + 8) (v1 : Int32).toNatClampNeg))
  else if v2 = 2 then
  (gd v1 101 <|
  some (s.1 (B + 9) (v1 : Int32).toNatClampNeg))
  else if v2 = 3 then
  (gd v1 101 <|
  some (s.1 (B + 10) (v1 : Int32).toNatClampNeg))
  else if v2 = 4 then
  (gd v1 101 <|
  some (s.1 (B + 11) (v1 : Int32).toNatClampNeg))
  else some (-1))
  else
  some (-1)
set_option maxHeartbeats 4000000 in
set_option maxRecDepth 100000 in
theorem t_He_tell (G : GG) (hR : gR G = rmx 0 0) (hL : gL G = 3) (C : Cx SC G cX2_tell RX2) {Acc : Int32 → Prop} {B : Nat} (hB : isM B) (v1 : Int32) (v2 : Int32) (s : St) (hr : ∀ v : Int32, Acc v → RtI SC G cX2_tell v s) : JJ SC G Acc (f_He_tell B v1 v2 s) 0 [(0, .ref (ad G (B + 6))), (1, .int v1), (2, .int v2)] [] s := by
  unfold f_He_tell
  refine jr_iload_n C 1 rfl rfl dX2_tell_0 ?_
  refine jr_iconst C ic_1 dX2_tell_1 ?_
  refine jr_icmp_lt C (tgt := 13) dX2_tell_2 (by decide) (fun h1 => ?_) (fun h1 => ?_)
  · refine jo_pos h1 ?_
    refine jr_iconst C ic_m1 dX2_tell_13 ?_
    exact jr_end (fun h => hr (-1) h _ _ dX2_tell_14)
  refine jo_neg h1 ?_
  refine jr_iload_n C 1 rfl rfl dX2_tell_5 ?_
  refine jr_aload_n C 0 rfl rfl dX2_tell_6 ?_
  refine jr_getI C FX_2 5 (oM_6 hB).1 (oM_6 hB).2 ff_2_5.1 ff_2_5.2 fl_X2_33 dX2_tell_7 ?_
  refine jr_icmp_le C (tgt := 15) dX2_tell_10 (by decide) (fun h2 => ?_) (fun h2 => ?_)
  · refine jo_pos h2 ?_
    refine jr_iload_n C 2 rfl rfl dX2_tell_15 ?_
    refine jo_cases (fun h3 => ?_) (fun h3 => ?_)
    · refine jr_tabIn C dX2_tell_16 h3 (by decide) (by decide) rfl (tgt := 52) (by decide) ?_
      refine jr_aload_n C 0 rfl rfl dX2_tell_52 ?_
      refine jr_getR C FX_2 0 (oM_6 hB).1 (oM_6 hB).2 ff_2_0.1 ff_2_0.2 (rM_6_0 _ hB) fl_X2_11 dX2_tell_53 ?_
      refine jr_iload_n C 1 rfl rfl dX2_tell_56 ?_
      refine jr_iald C (oM_7 hB).1 (oM_7 hB).2.1 (oM_7 hB).2.2 dX2_tell_57 ?_
      exact jr_end (fun h => hr (s.1 (B + 7) (v1 : Int32).toNatClampNeg) h _ _ dX2_tell_58)
    refine jo_cases (fun h4 => ?_) (fun h4 => ?_)
    · refine jr_tabIn C dX2_tell_16 h4 (by decide) (by decide) rfl (tgt := 59) (by decide) ?_
      refine jr_aload_n C 0 rfl rfl dX2_tell_59 ?_
      refine jr_getR C FX_2 1 (oM_6 hB).1 (oM_6 hB).2 ff_2_1.1 ff_2_1.2 (rM_6_1 _ hB) fl_X2_15 dX2_tell_60 ?_
      refine jr_iload_n C 1 rfl rfl dX2_tell_63 ?_
      refine jr_iald C (oM_8 hB).1 (oM_8 hB).2.1 (oM_8 hB).2.2 dX2_tell_64 ?_
      exact jr_end (fun h => hr (s.1 (B + 8) (v1 : Int32).toNatClampNeg) h _ _ dX2_tell_65)
    refine jo_cases (fun h5 => ?_) (fun h5 => ?_)
    · refine jr_tabIn C dX2_tell_16 h5 (by decide) (by decide) rfl (tgt := 66) (by decide) ?_
      refine jr_aload_n C 0 rfl rfl dX2_tell_66 ?_
      refine jr_getR C FX_2 2 (oM_6 hB).1 (oM_6 hB).2 ff_2_2.1 ff_2_2.2 (rM_6_2 _ hB) fl_X2_18 dX2_tell_67 ?_
      refine jr_iload_n C 1 rfl rfl dX2_tell_70 ?_
      refine jr_iald C (oM_9 hB).1 (oM_9 hB).2.1 (oM_9 hB).2.2 dX2_tell_71 ?_
      exact jr_end (fun h => hr (s.1 (B + 9) (v1 : Int32).toNatClampNeg) h _ _ dX2_tell_72)
    refine jo_cases (fun h6 => ?_) (fun h6 => ?_)
    · refine jr_tabIn C dX2_tell_16 h6 (by decide) (by decide) rfl (tgt := 73) (by decide) ?_
      refine jr_aload_n C 0 rfl rfl dX2_tell_73 ?_
      refine jr_getR C FX_2 3 (oM_6 hB).1 (oM_6 hB).2 ff_2_3.1 ff_2_3.2 (rM_6_3 _ hB) fl_X2_21 dX2_tell_74 ?_
      refine jr_iload_n C 1 rfl rfl dX2_tell_77 ?_
      refine jr_iald C (oM_10 hB).1 (oM_10 hB).2.1 (oM_10 hB).2.2 dX2_tell_78 ?_
      exact jr_end (fun h => hr (s.1 (B + 10) (v1 : Int32).toNatClampNeg) h _ _ dX2_tell_79)
    refine jo_cases (fun h7 => ?_) (fun h7 => ?_)
    · refine jr_tabIn C dX2_tell_16 h7 (by decide) (by decide) rfl (tgt := 80) (by decide) ?_
      refine jr_aload_n C 0 rfl rfl dX2_tell_80 ?_
      refine jr_getR C FX_2 4 (oM_6 hB).1 (oM_6 hB).2 ff_2_4.1 ff_2_4.2 (rM_6_4 _ hB) fl_X2_24 dX2_tell_81 ?_
      refine jr_iload_n C 1 rfl rfl dX2_tell_84 ?_
      refine jr_iald C (oM_11 hB).1 (oM_11 hB).2.1 (oM_11 hB).2.2 dX2_tell_85 ?_
      exact jr_end (fun h => hr (s.1 (B + 11) (v1 : Int32).toNatClampNeg) h _ _ dX2_tell_86)
    refine jr_tabOut C dX2_tell_16 (by have e0 := lv_neT h3 (a := 0) (by decide); have e1 := lv_neT h4 (a := 1) (by decide); have e2 := lv_neT h5 (a := 2) (by decide); have e3 := lv_neT h6 (a := 3) (by decide); have e4 := lv_neT h7 (a := 4) (by decide); omega) (tgt := 87) (by decide) ?_
    refine jr_iconst C ic_m1 dX2_tell_87 ?_
    exact jr_end (fun h => hr (-1) h _ _ dX2_tell_88)
  refine jo_neg h2 ?_
  refine jr_iconst C ic_m1 dX2_tell_13 ?_
  exact jr_end (fun h => hr (-1) h _ _ dX2_tell_14)
set_option maxRecDepth 100000 in
theorem c_He_tell (l : Launch) {B : Nat} (hB : isM B) (v1 : Int32) (v2 : Int32) (s : St) {q : Int32} (h : f_He_tell B v1 v2 s = some q) : CT SC l yX2_tell cX2_tell 3 (some .int) 0 0 (fun a => [.ref (a (B + 6)), .int v1, .int v2]) s s (fun _ => some (.int q)) :=
  ct_I okX_C (by decide) (fun _ => Nat.le_of_ble_eq_true rfl) (fun G hl hR hL C hr => t_He_tell G hR hL C (Acc := fun v => v = q) hB v1 v2 s (fun v hv => by rw [hv]; exact hr) ⟨_, h, rfl⟩)
noncomputable def f_He_isInUse (B : Nat) (v1 : Int32) (s : St) : Option Int32 :=
  if v1 < 1 then
  some 0
  else
  if (s.1 (B + 6) 5) < v1 then
  some 0
  else
  gd v1 101 <|
  if (s.1 (B + 9) (v1 : Int32).toNatClampNeg) = 2 then
  some 1
  else
  some 0
set_option maxHeartbeats 4000000 in
set_option maxRecDepth 100000 in
theorem t_He_isInUse (G : GG) (hR : gR G = rmx 0 0) (hL : gL G = 2) (C : Cx SC G cX2_isInUse RX2) {Acc : Int32 → Prop} {B : Nat} (hB : isM B) (v1 : Int32) (s : St) (hr : ∀ v : Int32, Acc v → RtZ SC G cX2_isInUse v s) : JJ SC G Acc (f_He_isInUse B v1 s) 0 [(0, .ref (ad G (B + 6))), (1, .int v1)] [] s := by
  unfold f_He_isInUse
  refine jr_iload_n C 1 rfl rfl dX2_isInUse_0 ?_
  refine jr_iconst C ic_1 dX2_isInUse_1 ?_
  refine jr_icmp_lt C (tgt := 27) dX2_isInUse_2 (by decide) (fun h1 => ?_) (fun h1 => ?_)
  · refine jo_pos h1 ?_
    refine jr_iconst C ic_0 dX2_isInUse_27 ?_
    exact jr_end (fun h => hr 0 h _ _ _ bN0 dX2_isInUse_28)
  refine jo_neg h1 ?_
  refine jr_iload_n C 1 rfl rfl dX2_isInUse_5 ?_
  refine jr_aload_n C 0 rfl rfl dX2_isInUse_6 ?_
  refine jr_getI C FX_2 5 (oM_6 hB).1 (oM_6 hB).2 ff_2_5.1 ff_2_5.2 fl_X2_33 dX2_isInUse_7 ?_
  refine jr_icmp_gt C (tgt := 27) dX2_isInUse_10 (by decide) (fun h2 => ?_) (fun h2 => ?_)
  · refine jo_pos h2 ?_
    refine jr_iconst C ic_0 dX2_isInUse_27 ?_
    exact jr_end (fun h => hr 0 h _ _ _ bN0 dX2_isInUse_28)
  refine jo_neg h2 ?_
  refine jr_aload_n C 0 rfl rfl dX2_isInUse_13 ?_
  refine jr_getR C FX_2 2 (oM_6 hB).1 (oM_6 hB).2 ff_2_2.1 ff_2_2.2 (rM_6_2 _ hB) fl_X2_18 dX2_isInUse_14 ?_
  refine jr_iload_n C 1 rfl rfl dX2_isInUse_17 ?_
  refine jr_iald C (oM_9 hB).1 (oM_9 hB).2.1 (oM_9 hB).2.2 dX2_isInUse_18 ?_
  refine jr_iconst C ic_2 dX2_isInUse_19 ?_
  refine jr_icmp_ne C (tgt := 27) dX2_isInUse_20 (by decide) (fun h3 => ?_) (fun h3 => ?_)
  · refine jo_neg h3 ?_
    refine jr_iconst C ic_0 dX2_isInUse_27 ?_
    exact jr_end (fun h => hr 0 h _ _ _ bN0 dX2_isInUse_28)
  refine jo_pos h3 ?_
  refine jr_iconst C ic_1 dX2_isInUse_23 ?_
  refine jr_goto C (tgt := 28) dX2_isInUse_24 (by decide) ?_
  exact jr_end (fun h => hr 1 h _ _ _ bN1 dX2_isInUse_28)
set_option maxRecDepth 100000 in
theorem c_He_isInUse (l : Launch) {B : Nat} (hB : isM B) (v1 : Int32) (s : St) {q : Int32} (h : f_He_isInUse B v1 s = some q) : CT SC l yX2_isInUse cX2_isInUse 2 (some .boolean) 0 0 (fun a => [.ref (a (B + 6)), .int v1]) s s (fun _ => some (.int q)) :=
  ct_Z okX_C (by decide) (fun _ => Nat.le_of_ble_eq_true rfl) (fun G hl hR hL C hr => t_He_isInUse G hR hL C (Acc := fun v => v = q) hB v1 s (fun v hv => by rw [hv]; exact hr) ⟨_, h, rfl⟩)
noncomputable def f_Le_follow_J48 (B : Nat) (v3 : Int32) (v5 : Int32) (s : St) : Option St :=
  gd v5 101 <|
  lt (uI s (B + 15) (v5 : Int32).toNatClampNeg v3) fun s7 =>
  if v3 = 1 then
  some s7
  else
  if 100 ≤ (s7.1 (B + 14) 2) then
  some s7
  else
  gd (s7.1 (B + 14) 2) 100 <|
  lt (uI s7 (B + 16) ((s7.1 (B + 14) 2) : Int32).toNatClampNeg v5) fun s10 =>
  lt (uI s10 (B + 14) 2 ((s10.1 (B + 14) 2) + 1)) fun s11 =>
  some s11
set_option maxHeartbeats 4000000 in
set_option maxRecDepth 100000 in
theorem t_Le_follow_J48 (G : GG) (hR : gR G = rmx 2 44) (hL : gL G = 6) (C : Cx SC G cX3_follow RX3) {Acc : St → Prop} {B : Nat} (hB : isM B) (v3 : Int32) (v5 : Int32) (s : St) (hr : ∀ v : St, Acc v → RtV SC G cX3_follow v) : JJ SC G Acc (f_Le_follow_J48 B v3 v5 s) 48 [(0, .ref (ad G (B + 14))), (3, .int v3), (5, .int v5)] [] s := by
  unfold f_Le_follow_J48
  refine jr_aload_n C 0 rfl rfl dX3_follow_48 ?_
  refine jr_getR C FX_3 0 (oM_14 hB).1 (oM_14 hB).2 ff_3_0.1 ff_3_0.2 (rM_14_0 _ hB) fl_X3_9 dX3_follow_49 ?_
  refine jr_iload C 2 rfl dX3_follow_52 ?_
  refine jr_iload_n C 1 rfl rfl dX3_follow_54 ?_
  refine jr_iast C (oM_15 hB).1 (oM_15 hB).2.1 (oM_15 hB).2.2 dX3_follow_55 (jr_ltS fun s7 => ?_)
  refine jr_iload_n C 1 rfl rfl dX3_follow_56 ?_
  refine jr_iconst C ic_1 dX3_follow_57 ?_
  refine jr_icmp_eq C (tgt := 94) dX3_follow_58 (by decide) (fun h8 => ?_) (fun h8 => ?_)
  · refine jo_pos h8 ?_
    exact jr_end (fun h => hr s7 h _ _ dX3_follow_94)
  refine jo_neg h8 ?_
  refine jr_aload_n C 0 rfl rfl dX3_follow_61 ?_
  refine jr_getI C FX_3 2 (oM_14 hB).1 (oM_14 hB).2 ff_3_2.1 ff_3_2.2 fl_X3_18 dX3_follow_62 ?_
  refine jr_aload_n C 0 rfl rfl dX3_follow_65 ?_
  refine jr_getR C FX_3 1 (oM_14 hB).1 (oM_14 hB).2 ff_3_1.1 ff_3_1.2 (rM_14_1 _ hB) fl_X3_15 dX3_follow_66 ?_
  refine jr_alen C (oM_16 hB).1 (oM_16 hB).2.1 (oM_16 hB).2.2 (v := 100) (by decide) dX3_follow_69 ?_
  refine jr_icmp_ge C (tgt := 94) dX3_follow_70 (by decide) (fun h9 => ?_) (fun h9 => ?_)
  · refine jo_pos h9 ?_
    exact jr_end (fun h => hr s7 h _ _ dX3_follow_94)
  refine jo_neg h9 ?_
  refine jr_aload_n C 0 rfl rfl dX3_follow_73 ?_
  refine jr_getR C FX_3 1 (oM_14 hB).1 (oM_14 hB).2 ff_3_1.1 ff_3_1.2 (rM_14_1 _ hB) fl_X3_15 dX3_follow_74 ?_
  refine jr_aload_n C 0 rfl rfl dX3_follow_77 ?_
  refine jr_getI C FX_3 2 (oM_14 hB).1 (oM_14 hB).2 ff_3_2.1 ff_3_2.2 fl_X3_18 dX3_follow_78 ?_
  refine jr_iload C 2 rfl dX3_follow_81 ?_
  refine jr_iast C (oM_16 hB).1 (oM_16 hB).2.1 (oM_16 hB).2.2 dX3_follow_83 (jr_ltS fun s10 => ?_)
  refine jr_aload_n C 0 rfl rfl dX3_follow_84 ?_
  refine jr_dup C rfl dX3_follow_85 ?_
  refine jr_getI C FX_3 2 (oM_14 hB).1 (oM_14 hB).2 ff_3_2.1 ff_3_2.2 fl_X3_18 dX3_follow_86 ?_
  refine jr_iconst C ic_1 dX3_follow_89 ?_
  refine jr_iadd C dX3_follow_90 ?_
  refine jr_putI C FX_3 2 (oM_14 hB).1 (oM_14 hB).2 ff_3_2.1 ff_3_2.2 rfl rfl fl_X3_18 dX3_follow_91 (jr_ltS fun s11 => ?_)
  exact jr_end (fun h => hr s11 h _ _ dX3_follow_94)
noncomputable def f_Le_follow (B : Nat) (v1 : Int32) (v2 : Int32) (v3 : Int32) (s : St) : Option St :=
  (f_He_leadsTo B v1 s).bind fun q1 =>
  if q1 = 0 then
  some s
  else
  if q1 = v2 then
  some s
  else
  gd q1 101 <|
  if (s.1 (B + 15) (q1 : Int32).toNatClampNeg) = 0 then
  (if v3 = 2 then
  f_Le_follow_J48 B v3 q1 s
  else
  gd q1 101 <|
  if (s.1 (B + 7) (q1 : Int32).toNatClampNeg) = v1 then
  f_Le_follow_J48 B v3 q1 s
  else
  some s)
  else
  some s
set_option maxHeartbeats 4000000 in
set_option maxRecDepth 100000 in
theorem t_Le_follow (G : GG) (hR : gR G = rmx 2 44) (hL : gL G = 6) (C : Cx SC G cX3_follow RX3) {Acc : St → Prop} {B : Nat} (hB : isM B) (v1 : Int32) (v2 : Int32) (v3 : Int32) (s : St) (hr : ∀ v : St, Acc v → RtV SC G cX3_follow v) : JJ SC G Acc (f_Le_follow B v1 v2 v3 s) 0 [(0, .ref (ad G (B + 14))), (1, .int v1), (2, .int v2), (3, .int v3), (4, .ref (ad G (B + 6)))] [] s := by
  unfold f_Le_follow
  refine jr_aload C 4 rfl dX3_follow_0 ?_
  refine jr_iload_n C 1 rfl rfl dX3_follow_2 ?_
  refine jr_bind (fun q1 e2 => ?_)
  refine jr_callVI C FX_2 km_X3_64 (oM_6 hB).1 (oM_6 hB).2 (rk hR rfl) (c_He_leadsTo (gl G) hB v1 s e2) rfl rfl rfl (Nat.le_of_ble_eq_true rfl) dX3_follow_3 ?_
  refine jr_istore C (lv' := [(5, .int q1), (0, .ref (ad G (B + 14))), (1, .int v1), (2, .int v2), (3, .int v3), (4, .ref (ad G (B + 6)))]) (ltL hL rfl) rfl dX3_follow_6 ?_
  refine jr_iload C 0 rfl dX3_follow_8 ?_
  refine jr_if_eq C (tgt := 29) dX3_follow_10 (by decide) (fun h3 => ?_) (fun h3 => ?_)
  · refine jo_pos h3 ?_
    exact jr_end (fun h => hr s h _ _ dX3_follow_29)
  refine jo_neg h3 ?_
  refine jr_iload C 0 rfl dX3_follow_13 ?_
  refine jr_iload_n C 3 rfl rfl dX3_follow_15 ?_
  refine jr_icmp_eq C (tgt := 29) dX3_follow_16 (by decide) (fun h4 => ?_) (fun h4 => ?_)
  · refine jo_pos h4 ?_
    exact jr_end (fun h => hr s h _ _ dX3_follow_29)
  refine jo_neg h4 ?_
  refine jr_aload_n C 1 rfl rfl dX3_follow_19 ?_
  refine jr_getR C FX_3 0 (oM_14 hB).1 (oM_14 hB).2 ff_3_0.1 ff_3_0.2 (rM_14_0 _ hB) fl_X3_9 dX3_follow_20 ?_
  refine jr_iload C 0 rfl dX3_follow_23 ?_
  refine jr_iald C (oM_15 hB).1 (oM_15 hB).2.1 (oM_15 hB).2.2 dX3_follow_25 ?_
  refine jr_if_eq C (tgt := 30) dX3_follow_26 (by decide) (fun h5 => ?_) (fun h5 => ?_)
  · refine jo_pos h5 ?_
    refine jr_iload_n C 4 rfl rfl dX3_follow_30 ?_
    refine jr_iconst C ic_2 dX3_follow_31 ?_
    refine jr_icmp_eq C (tgt := 48) dX3_follow_32 (by decide) (fun h6 => ?_) (fun h6 => ?_)
    · refine jo_pos h6 ?_
      refine jr_lv [1, 4, 0] rfl ?_
      exact t_Le_follow_J48 G hR hL C hB v3 q1 s hr
    refine jo_neg h6 ?_
    refine jr_aload C 5 rfl dX3_follow_35 ?_
    refine jr_getR C FX_2 0 (oM_6 hB).1 (oM_6 hB).2 ff_2_0.1 ff_2_0.2 (rM_6_0 _ hB) fl_X3_33 dX3_follow_37 ?_
    refine jr_iload C 0 rfl dX3_follow_40 ?_
    refine jr_iald C (oM_7 hB).1 (oM_7 hB).2.1 (oM_7 hB).2.2 dX3_follow_42 ?_
    refine jr_iload_n C 2 rfl rfl dX3_follow_43 ?_
    refine jr_icmp_eq C (tgt := 48) dX3_follow_44 (by decide) (fun h12 => ?_) (fun h12 => ?_)
    · refine jo_pos h12 ?_
      refine jr_lv [1, 4, 0] rfl ?_
      exact t_Le_follow_J48 G hR hL C hB v3 q1 s hr
    refine jo_neg h12 ?_
    exact jr_end (fun h => hr s h _ _ dX3_follow_47)
  refine jo_neg h5 ?_
  exact jr_end (fun h => hr s h _ _ dX3_follow_29)
set_option maxRecDepth 100000 in
theorem c_Le_follow (l : Launch) {B : Nat} (hB : isM B) (v1 : Int32) (v2 : Int32) (v3 : Int32) (s : St) {q : St} (h : f_Le_follow B v1 v2 v3 s = some q) : CT SC l yX3_follow cX3_follow 6 none 2 44 (fun a => [.ref (a (B + 14)), .int v1, .int v2, .int v3, .ref (a (B + 6))]) s q (fun _ => none) :=
  ct_V okX_C (by decide) (fun _ => Nat.le_of_ble_eq_true rfl) (fun G hl hR hL C hr => t_Le_follow G hR hL C (Acc := fun v => v = q) hB v1 v2 v3 s (fun v hv => by rw [hv]; exact hr) ⟨_, h, rfl⟩)
noncomputable def f_Me_isSetWord (B : Nat) (v1 : Int32) (s : St) : Option Int32 :=
  if (f_Me_holds v1 4) = 0 then
  some 0
  else
  (f_Me_firstDoubtful B v1 4 s).bind fun q2 =>
  if q2 = (-1) then
  some 1
  else
  some 0
set_option maxHeartbeats 4000000 in
set_option maxRecDepth 100000 in
theorem t_Me_isSetWord (G : GG) (hR : gR G = rmx 2 43) (hL : gL G = 2) (C : Cx SC G cX6_isSetWord RX6) {Acc : Int32 → Prop} {B : Nat} (hB : isM B) (v1 : Int32) (s : St) (hr : ∀ v : Int32, Acc v → RtZ SC G cX6_isSetWord v s) : JJ SC G Acc (f_Me_isSetWord B v1 s) 0 [(0, .ref (ad G (B + 1))), (1, .int v1)] [] s := by
  unfold f_Me_isSetWord
  refine jr_iload_n C 1 rfl rfl dX6_isSetWord_0 ?_
  refine jr_iconst C ic_4 dX6_isSetWord_1 ?_
  refine jr_callSI C km_X6_73 (rk hR rfl) (c_Me_holds (gl G) isM_20 v1 4 s) rfl rfl rfl (Nat.le_of_ble_eq_true rfl) dX6_isSetWord_2 ?_
  refine jr_if_eq C (tgt := 22) dX6_isSetWord_5 (by decide) (fun h1 => ?_) (fun h1 => ?_)
  · refine jo_pos h1 ?_
    refine jr_iconst C ic_0 dX6_isSetWord_22 ?_
    exact jr_end (fun h => hr 0 h _ _ _ bN0 dX6_isSetWord_23)
  refine jo_neg h1 ?_
  refine jr_aload_n C 0 rfl rfl dX6_isSetWord_8 ?_
  refine jr_iload_n C 1 rfl rfl dX6_isSetWord_9 ?_
  refine jr_iconst C ic_4 dX6_isSetWord_10 ?_
  refine jr_bind (fun q2 e3 => ?_)
  refine jr_callVI C FX_6 km_X6_83 (oM_1 hB).1 (oM_1 hB).2 (rk hR rfl) (c_Me_firstDoubtful (gl G) hB v1 4 s e3) rfl rfl rfl (Nat.le_of_ble_eq_true rfl) dX6_isSetWord_11 ?_
  refine jr_iconst C ic_m1 dX6_isSetWord_14 ?_
  refine jr_icmp_ne C (tgt := 22) dX6_isSetWord_15 (by decide) (fun h4 => ?_) (fun h4 => ?_)
  · refine jo_neg h4 ?_
    refine jr_iconst C ic_0 dX6_isSetWord_22 ?_
    exact jr_end (fun h => hr 0 h _ _ _ bN0 dX6_isSetWord_23)
  refine jo_pos h4 ?_
  refine jr_iconst C ic_1 dX6_isSetWord_18 ?_
  refine jr_goto C (tgt := 23) dX6_isSetWord_19 (by decide) ?_
  exact jr_end (fun h => hr 1 h _ _ _ bN1 dX6_isSetWord_23)
set_option maxRecDepth 100000 in
theorem c_Me_isSetWord (l : Launch) {B : Nat} (hB : isM B) (v1 : Int32) (s : St) {q : Int32} (h : f_Me_isSetWord B v1 s = some q) : CT SC l yX6_isSetWord cX6_isSetWord 2 (some .boolean) 2 43 (fun a => [.ref (a (B + 1)), .int v1]) s s (fun _ => some (.int q)) :=
  ct_Z okX_C (by decide) (fun _ => Nat.le_of_ble_eq_true rfl) (fun G hl hR hL C hr => t_Me_isSetWord G hR hL C (Acc := fun v => v = q) hB v1 s (fun v hv => by rw [hv]; exact hr) ⟨_, h, rfl⟩)
noncomputable def f_Me_wordAt (B : Nat) (v1 : Int32) (s : St) : Option Int32 :=
  gd v1 4096 <|
  gd (v1 + 1) 4096 <|
  gd (v1 + 2) 4096 <|
  gd (v1 + 3) 4096 <|
  some ((((s.1 (B + 2) (v1 : Int32).toNatClampNeg) ||| ((s.1 (B + 2) ((v1 + 1) : Int32).toNatClampNeg) <<< (8 &&& 31))) ||| ((s.1 (B + 2) ((v1 + 2) : Int32).toNatClampNeg) <<< (16 &&& 31))) ||| ((s.1 (B + 2) ((v1 + 3) : Int32).toNatClampNeg) <<< (24 &&& 31)))
set_option maxHeartbeats 4000000 in
set_option maxRecDepth 100000 in
theorem t_Me_wordAt (G : GG) (hR : gR G = rmx 0 0) (hL : gL G = 2) (C : Cx SC G cX6_wordAt RX6) {Acc : Int32 → Prop} {B : Nat} (hB : isM B) (v1 : Int32) (s : St) (hr : ∀ v : Int32, Acc v → RtI SC G cX6_wordAt v s) : JJ SC G Acc (f_Me_wordAt B v1 s) 0 [(0, .ref (ad G (B + 1))), (1, .int v1)] [] s := by
  unfold f_Me_wordAt
  refine jr_aload_n C 0 rfl rfl dX6_wordAt_0 ?_
  refine jr_getR C FX_6 0 (oM_1 hB).1 (oM_1 hB).2 ff_6_0.1 ff_6_0.2 (rM_1_0 _ hB) fl_X6_11 dX6_wordAt_1 ?_
  refine jr_iload_n C 1 rfl rfl dX6_wordAt_4 ?_
  refine jr_iald C (oM_2 hB).1 (oM_2 hB).2.1 (oM_2 hB).2.2 dX6_wordAt_5 ?_
  refine jr_aload_n C 0 rfl rfl dX6_wordAt_6 ?_
  refine jr_getR C FX_6 0 (oM_1 hB).1 (oM_1 hB).2 ff_6_0.1 ff_6_0.2 (rM_1_0 _ hB) fl_X6_11 dX6_wordAt_7 ?_
  refine jr_iload_n C 1 rfl rfl dX6_wordAt_10 ?_
  refine jr_iconst C ic_1 dX6_wordAt_11 ?_
  refine jr_iadd C dX6_wordAt_12 ?_
  refine jr_iald C (oM_2 hB).1 (oM_2 hB).2.1 (oM_2 hB).2.2 dX6_wordAt_13 ?_
  refine jr_bipush C bp_8 dX6_wordAt_14 ?_
  refine jr_ishl C dX6_wordAt_16 ?_
  refine jr_ior C dX6_wordAt_17 ?_
  refine jr_aload_n C 0 rfl rfl dX6_wordAt_18 ?_
  refine jr_getR C FX_6 0 (oM_1 hB).1 (oM_1 hB).2 ff_6_0.1 ff_6_0.2 (rM_1_0 _ hB) fl_X6_11 dX6_wordAt_19 ?_
  refine jr_iload_n C 1 rfl rfl dX6_wordAt_22 ?_
  refine jr_iconst C ic_2 dX6_wordAt_23 ?_
  refine jr_iadd C dX6_wordAt_24 ?_
  refine jr_iald C (oM_2 hB).1 (oM_2 hB).2.1 (oM_2 hB).2.2 dX6_wordAt_25 ?_
  refine jr_bipush C bp_16 dX6_wordAt_26 ?_
  refine jr_ishl C dX6_wordAt_28 ?_
  refine jr_ior C dX6_wordAt_29 ?_
  refine jr_aload_n C 0 rfl rfl dX6_wordAt_30 ?_
  refine jr_getR C FX_6 0 (oM_1 hB).1 (oM_1 hB).2 ff_6_0.1 ff_6_0.2 (rM_1_0 _ hB) fl_X6_11 dX6_wordAt_31 ?_
  refine jr_iload_n C 1 rfl rfl dX6_wordAt_34 ?_
  refine jr_iconst C ic_3 dX6_wordAt_35 ?_
  refine jr_iadd C dX6_wordAt_36 ?_
  refine jr_iald C (oM_2 hB).1 (oM_2 hB).2.1 (oM_2 hB).2.2 dX6_wordAt_37 ?_
  refine jr_bipush C bp_24 dX6_wordAt_38 ?_
  refine jr_ishl C dX6_wordAt_40 ?_
  refine jr_ior C dX6_wordAt_41 ?_
  exact jr_end (fun h => hr ((((s.1 (B + 2) (v1 : Int32).toNatClampNeg) ||| ((s.1 (B + 2) ((v1 + 1) : Int32).toNatClampNeg) <<< (8 &&& 31))) ||| ((s.1 (B + 2) ((v1 + 2) : Int32).toNatClampNeg) <<< (16 &&& 31))) ||| ((s.1 (B + 2) ((v1 + 3) : Int32).toNatClampNeg) <<< (24 &&& 31))) h _ _ dX6_wordAt_42)
set_option maxRecDepth 100000 in
theorem c_Me_wordAt (l : Launch) {B : Nat} (hB : isM B) (v1 : Int32) (s : St) {q : Int32} (h : f_Me_wordAt B v1 s = some q) : CT SC l yX6_wordAt cX6_wordAt 2 (some .int) 0 0 (fun a => [.ref (a (B + 1)), .int v1]) s s (fun _ => some (.int q)) :=
  ct_I okX_C (by decide) (fun _ => Nat.le_of_ble_eq_true rfl) (fun G hl hR hL C hr => t_Me_wordAt G hR hL C (Acc := fun v => v = q) hB v1 s (fun v hv => by rw [hv]; exact hr) ⟨_, h, rfl⟩)
noncomputable def f_Le_followWords_J41_1 (B : Nat) (v1 : Int32) (v2 : Int32) (v3 : Int32) (v4 : Int32) (v7 : Int32) (s : St) : Option ((Int32 × St) ⊕ (Int32 × St)) :=
  some (.inl ((v7 + 4), s))
set_option maxHeartbeats 4000000 in
set_option maxRecDepth 100000 in
theorem t_Le_followWords_J41_1 (G : GG) (hR : gR G = rmx 3 69) (hL : gL G = 8) (C : Cx SC G cX3_followWords RX3) {Acc : ((Int32 × St) ⊕ (Int32 × St)) → Prop} {B : Nat} (hB : isM B) (v1 : Int32) (v2 : Int32) (v3 : Int32) (v4 : Int32) (v7 : Int32) (s : St) (hb1 : ∀ (a7 : Int32) (t : St), Acc (.inl (a7, t)) → KK SC G 3 [(0, .ref (ad G (B + 14))), (1, .int v1), (2, .int v2), (3, .int v3), (4, .int v4), (5, .ref (ad G (B + 6))), (6, .ref (ad G (B + 1))), (7, .int a7)] [] t) (hx1 : ∀ (a7 : Int32) (t : St), Acc (.inr (a7, t)) → KK SC G 47 [(0, .ref (ad G (B + 14))), (1, .int v1), (2, .int v2), (3, .int v3), (4, .int v4), (5, .ref (ad G (B + 6))), (6, .ref (ad G (B + 1))), (7, .int a7)] [] t) : JJ SC G Acc (f_Le_followWords_J41_1 B v1 v2 v3 v4 v7 s) 41 [(0, .ref (ad G (B + 14))), (1, .int v1), (2, .int v2), (3, .int v3), (4, .int v4), (5, .ref (ad G (B + 6))), (6, .ref (ad G (B + 1))), (7, .int v7)] [] s := by
  unfold f_Le_followWords_J41_1
  refine jr_iinc C 7 rfl ii_4 (lv' := [(7, .int (v7 + 4)), (0, .ref (ad G (B + 14))), (1, .int v1), (2, .int v2), (3, .int v3), (4, .int v4), (5, .ref (ad G (B + 6))), (6, .ref (ad G (B + 1)))]) (ltL hL rfl) rfl dX3_followWords_41 ?_
  refine jr_goto C (tgt := 3) dX3_followWords_44 (by decide) ?_
  refine jr_lv [1, 2, 3, 4, 5, 6, 7, 0] rfl ?_
  exact jr_end (fun h => hb1 (v7 + 4) s h)
noncomputable def f_Le_followWords_L3 (B : Nat) (v1 : Int32) (v2 : Int32) (v3 : Int32) (v4 : Int32) (v7 : Int32) (s : St) : Option ((Int32 × St) ⊕ (Int32 × St)) :=
  if v2 < (v7 + 4) then
  some (.inr (v7, s))
  else
  (f_Me_isSetWord B (v1 + v7) s).bind fun q2 =>
  if q2 = 0 then
  f_Le_followWords_J41_1 B v1 v2 v3 v4 v7 s
  else
  (f_Me_wordAt B (v1 + v7) s).bind fun q5 =>
  (f_Le_follow B q5 v3 v4 s).bind fun q7 =>
  f_Le_followWords_J41_1 B v1 v2 v3 v4 v7 q7
set_option maxHeartbeats 4000000 in
set_option maxRecDepth 100000 in
theorem t_Le_followWords_L3 (G : GG) (hR : gR G = rmx 3 69) (hL : gL G = 8) (C : Cx SC G cX3_followWords RX3) {Acc : ((Int32 × St) ⊕ (Int32 × St)) → Prop} {B : Nat} (hB : isM B) (v1 : Int32) (v2 : Int32) (v3 : Int32) (v4 : Int32) (v7 : Int32) (s : St) (hb1 : ∀ (a7 : Int32) (t : St), Acc (.inl (a7, t)) → KK SC G 3 [(0, .ref (ad G (B + 14))), (1, .int v1), (2, .int v2), (3, .int v3), (4, .int v4), (5, .ref (ad G (B + 6))), (6, .ref (ad G (B + 1))), (7, .int a7)] [] t) (hx1 : ∀ (a7 : Int32) (t : St), Acc (.inr (a7, t)) → KK SC G 47 [(0, .ref (ad G (B + 14))), (1, .int v1), (2, .int v2), (3, .int v3), (4, .int v4), (5, .ref (ad G (B + 6))), (6, .ref (ad G (B + 1))), (7, .int a7)] [] t) : JJ SC G Acc (f_Le_followWords_L3 B v1 v2 v3 v4 v7 s) 3 [(0, .ref (ad G (B + 14))), (1, .int v1), (2, .int v2), (3, .int v3), (4, .int v4), (5, .ref (ad G (B + 6))), (6, .ref (ad G (B + 1))), (7, .int v7)] [] s := by
  unfold f_Le_followWords_L3
  refine jr_iload C 7 rfl dX3_followWords_3 ?_
  refine jr_iconst C ic_4 dX3_followWords_5 ?_
  refine jr_iadd C dX3_followWords_6 ?_
  refine jr_iload_n C 2 rfl rfl dX3_followWords_7 ?_
  refine jr_icmp_gt C (tgt := 47) dX3_followWords_8 (by decide) (fun h1 => ?_) (fun h1 => ?_)
  · refine jo_pos h1 ?_
    exact jr_end (fun h => hx1 v7 s h)
  refine jo_neg h1 ?_
  refine jr_aload C 6 rfl dX3_followWords_11 ?_
  refine jr_iload_n C 1 rfl rfl dX3_followWords_13 ?_
  refine jr_iload C 7 rfl dX3_followWords_14 ?_
  refine jr_iadd C dX3_followWords_16 ?_
  refine jr_bind (fun q2 e3 => ?_)
  refine jr_callVI C FX_6 km_X3_57 (oM_1 hB).1 (oM_1 hB).2 (rk hR rfl) (c_Me_isSetWord (gl G) hB (v1 + v7) s e3) rfl rfl rfl (Nat.le_of_ble_eq_true rfl) dX3_followWords_17 ?_
  refine jr_if_eq C (tgt := 41) dX3_followWords_20 (by decide) (fun h4 => ?_) (fun h4 => ?_)
  · refine jo_pos h4 ?_
    exact t_Le_followWords_J41_1 G hR hL C hB v1 v2 v3 v4 v7 s hb1 hx1
  refine jo_neg h4 ?_
  refine jr_aload_n C 0 rfl rfl dX3_followWords_23 ?_
  refine jr_aload C 6 rfl dX3_followWords_24 ?_
  refine jr_iload_n C 1 rfl rfl dX3_followWords_26 ?_
  refine jr_iload C 7 rfl dX3_followWords_27 ?_
  refine jr_iadd C dX3_followWords_29 ?_
  refine jr_bind (fun q5 e6 => ?_)
  refine jr_callVI C FX_6 km_X3_60 (oM_1 hB).1 (oM_1 hB).2 (rk hR rfl) (c_Me_wordAt (gl G) hB (v1 + v7) s e6) rfl rfl rfl (Nat.le_of_ble_eq_true rfl) dX3_followWords_30 ?_
  refine jr_iload_n C 3 rfl rfl dX3_followWords_33 ?_
  refine jr_iload C 4 rfl dX3_followWords_34 ?_
  refine jr_aload C 5 rfl dX3_followWords_36 ?_
  refine jr_bind (fun q7 e8 => ?_)
  refine jr_callVV C FX_3 km_X3_51 (oM_14 hB).1 (oM_14 hB).2 (rk hR rfl) (c_Le_follow (gl G) hB q5 v3 v4 s e8) rfl rfl rfl (Nat.le_of_ble_eq_true rfl) dX3_followWords_38 ?_
  exact t_Le_followWords_J41_1 G hR hL C hB v1 v2 v3 v4 v7 q7 hb1 hx1
noncomputable def f_Le_followWords (B : Nat) (v1 : Int32) (v2 : Int32) (v3 : Int32) (v4 : Int32) (s : St) : Option St :=
  (wh (fun a : (Int32 × St) => f_Le_followWords_L3 B v1 v2 v3 v4 a.1 a.2) (0, s)).bind (fun b9 =>
  some (b9.2))
set_option maxHeartbeats 4000000 in
set_option maxRecDepth 100000 in
theorem t_Le_followWords (G : GG) (hR : gR G = rmx 3 69) (hL : gL G = 8) (C : Cx SC G cX3_followWords RX3) {Acc : St → Prop} {B : Nat} (hB : isM B) (v1 : Int32) (v2 : Int32) (v3 : Int32) (v4 : Int32) (s : St) (hr : ∀ v : St, Acc v → RtV SC G cX3_followWords v) : JJ SC G Acc (f_Le_followWords B v1 v2 v3 v4 s) 0 [(0, .ref (ad G (B + 14))), (1, .int v1), (2, .int v2), (3, .int v3), (4, .int v4), (5, .ref (ad G (B + 6))), (6, .ref (ad G (B + 1)))] [] s := by
  unfold f_Le_followWords
  refine jr_iconst C ic_0 dX3_followWords_0 ?_
  refine jr_istore C (lv' := [(7, .int 0), (0, .ref (ad G (B + 14))), (1, .int v1), (2, .int v2), (3, .int v3), (4, .int v4), (5, .ref (ad G (B + 6))), (6, .ref (ad G (B + 1)))]) (ltL hL rfl) rfl dX3_followWords_1 ?_
  refine jr_lv [1, 2, 3, 4, 5, 6, 7, 0] rfl ?_
  refine jr_loopB (pc := 3) (pcx := 47) (f := fun a : (Int32 × St) => f_Le_followWords_L3 B v1 v2 v3 v4 a.1 a.2) (fun a : (Int32 × St) => [(0, .ref (ad G (B + 14))), (1, .int v1), (2, .int v2), (3, .int v3), (4, .int v4), (5, .ref (ad G (B + 6))), (6, .ref (ad G (B + 1))), (7, .int (a.1))]) (fun a : (Int32 × St) => a.2) (0, s) (fun a => t_Le_followWords_L3 G hR hL C hB v1 v2 v3 v4 a.1 a.2 (fun _ _ h => h) (fun _ _ h => h)) (fun b9 => ?_)
  exact jr_end (fun h => hr (b9.2) h _ _ dX3_followWords_47)
set_option maxRecDepth 100000 in
theorem c_Le_followWords (l : Launch) {B : Nat} (hB : isM B) (v1 : Int32) (v2 : Int32) (v3 : Int32) (v4 : Int32) (s : St) {q : St} (h : f_Le_followWords B v1 v2 v3 v4 s = some q) : CT SC l yX3_followWords cX3_followWords 8 none 3 69 (fun a => [.ref (a (B + 14)), .int v1, .int v2, .int v3, .int v4, .ref (a (B + 6)), .ref (a (B + 1))]) s q (fun _ => none) :=
  ct_V okX_C (by decide) (fun _ => Nat.le_of_ble_eq_true rfl) (fun G hl hR hL C hr => t_Le_followWords G hR hL C (Acc := fun v => v = q) hB v1 v2 v3 v4 s (fun v hv => by rw [hv]; exact hr) ⟨_, h, rfl⟩)
noncomputable def f_Le_spread_J37_1 (B : Nat) (v1 : Int32) (v5 : Int32) (s : St) : Option ((Int32 × St) ⊕ (Int32 × St)) :=
  some (.inl ((v5 + 1), s))
set_option maxHeartbeats 4000000 in
set_option maxRecDepth 100000 in
theorem t_Le_spread_J37_1 (G : GG) (hR : gR G = rmx 4 96) (hL : gL G = 7) (C : Cx SC G cX3_spread RX3) {Acc : ((Int32 × St) ⊕ (Int32 × St)) → Prop} {B : Nat} (hB : isM B) (v1 : Int32) (v5 : Int32) (s : St) (hb1 : ∀ (a5 : Int32) (t : St), Acc (.inl (a5, t)) → KK SC G 3 [(0, .ref (ad G (B + 14))), (1, .int v1), (2, .ref (ad G (B + 6))), (3, .ref (ad G (B + 1))), (4, .ref (ad G (B + 25))), (5, .int a5)] [] t) (hx1 : ∀ (a5 : Int32) (t : St), Acc (.inr (a5, t)) → KK SC G 43 [(0, .ref (ad G (B + 14))), (1, .int v1), (2, .ref (ad G (B + 6))), (3, .ref (ad G (B + 1))), (4, .ref (ad G (B + 25))), (5, .int a5)] [] t) : JJ SC G Acc (f_Le_spread_J37_1 B v1 v5 s) 37 [(0, .ref (ad G (B + 14))), (1, .int v1), (2, .ref (ad G (B + 6))), (3, .ref (ad G (B + 1))), (4, .ref (ad G (B + 25))), (5, .int v5)] [] s := by
  unfold f_Le_spread_J37_1
  refine jr_iinc C 5 rfl ii_1 (lv' := [(5, .int (v5 + 1)), (0, .ref (ad G (B + 14))), (1, .int v1), (2, .ref (ad G (B + 6))), (3, .ref (ad G (B + 1))), (4, .ref (ad G (B + 25)))]) (ltL hL rfl) rfl dX3_spread_37 ?_
  refine jr_goto C (tgt := 3) dX3_spread_40 (by decide) ?_
  refine jr_lv [1, 2, 3, 4, 5, 0] rfl ?_
  exact jr_end (fun h => hb1 (v5 + 1) s h)
noncomputable def f_Le_spread_L3 (B : Nat) (v1 : Int32) (v5 : Int32) (s : St) : Option ((Int32 × St) ⊕ (Int32 × St)) :=
  if 8 ≤ v5 then
  some (.inr (v5, s))
  else
  gd v5 8 <|
  if (s.1 (B + 26 + (v5 : Int32).toNatClampNeg) 1) = 0 then
  (gd v5 8 <|
  (f_Le_follow B (s.1 (B + 26 + (v5 : Int32).toNatClampNeg) 0) 0 v1 s).bind fun q5 =>
  f_Le_spread_J37_1 B v1 v5 q5)
  else
  f_Le_spread_J37_1 B v1 v5 s
set_option maxHeartbeats 4000000 in
set_option maxRecDepth 100000 in
theorem t_Le_spread_L3 (G : GG) (hR : gR G = rmx 4 96) (hL : gL G = 7) (C : Cx SC G cX3_spread RX3) {Acc : ((Int32 × St) ⊕ (Int32 × St)) → Prop} {B : Nat} (hB : isM B) (v1 : Int32) (v5 : Int32) (s : St) (hb1 : ∀ (a5 : Int32) (t : St), Acc (.inl (a5, t)) → KK SC G 3 [(0, .ref (ad G (B + 14))), (1, .int v1), (2, .ref (ad G (B + 6))), (3, .ref (ad G (B + 1))), (4, .ref (ad G (B + 25))), (5, .int a5)] [] t) (hx1 : ∀ (a5 : Int32) (t : St), Acc (.inr (a5, t)) → KK SC G 43 [(0, .ref (ad G (B + 14))), (1, .int v1), (2, .ref (ad G (B + 6))), (3, .ref (ad G (B + 1))), (4, .ref (ad G (B + 25))), (5, .int a5)] [] t) : JJ SC G Acc (f_Le_spread_L3 B v1 v5 s) 3 [(0, .ref (ad G (B + 14))), (1, .int v1), (2, .ref (ad G (B + 6))), (3, .ref (ad G (B + 1))), (4, .ref (ad G (B + 25))), (5, .int v5)] [] s := by
  unfold f_Le_spread_L3
  refine jr_iload C 5 rfl dX3_spread_3 ?_
  refine jr_aload C 4 rfl dX3_spread_5 ?_
  refine jr_alenR C (oM_25 hB).1 (oM_25 hB).2.1 (oM_25 hB).2.2 (v := 8) (by decide) dX3_spread_7 ?_
  refine jr_icmp_ge C (tgt := 43) dX3_spread_8 (by decide) (fun h1 => ?_) (fun h1 => ?_)
  · refine jo_pos h1 ?_
    exact jr_end (fun h => hx1 v5 s h)
  refine jo_neg h1 ?_
  refine jr_aload C 4 rfl dX3_spread_11 ?_
  refine jr_iload C 5 rfl dX3_spread_13 ?_
  refine jr_aald C (oM_25 hB).1 (oM_25 hB).2.1 (oM_25 hB).2.2 (fun _ => rM_r _ hB) dX3_spread_15 (fun h2 => ?_)
  refine jr_getI C FX_1 1 (oD (dM_r hB h2)).1 (oD (dM_r hB h2)).2 ff_1_1.1 ff_1_1.2 fl_X3_43 dX3_spread_16 ?_
  refine jr_if_ne C (tgt := 37) dX3_spread_19 (by decide) (fun h3 => ?_) (fun h3 => ?_)
  · refine jo_neg h3 ?_
    exact t_Le_spread_J37_1 G hR hL C hB v1 v5 s hb1 hx1
  refine jo_pos h3 ?_
  refine jr_aload_n C 0 rfl rfl dX3_spread_22 ?_
  refine jr_aload C 4 rfl dX3_spread_23 ?_
  refine jr_iload C 5 rfl dX3_spread_25 ?_
  refine jr_aald C (oM_25 hB).1 (oM_25 hB).2.1 (oM_25 hB).2.2 (fun _ => rM_r _ hB) dX3_spread_27 (fun h4 => ?_)
  refine jr_getI C FX_1 0 (oD (dM_r hB h4)).1 (oD (dM_r hB h4)).2 ff_1_0.1 ff_1_0.2 fl_X3_48 dX3_spread_28 ?_
  refine jr_iconst C ic_0 dX3_spread_31 ?_
  refine jr_iload_n C 1 rfl rfl dX3_spread_32 ?_
  refine jr_aload_n C 2 rfl rfl dX3_spread_33 ?_
  refine jr_bind (fun q5 e6 => ?_)
  refine jr_callVV C FX_3 km_X3_51 (oM_14 hB).1 (oM_14 hB).2 (rk hR rfl) (c_Le_follow (gl G) hB (s.1 (B + 26 + (v5 : Int32).toNatClampNeg) 0) 0 v1 s e6) rfl rfl rfl (Nat.le_of_ble_eq_true rfl) dX3_spread_34 ?_
  exact t_Le_spread_J37_1 G hR hL C hB v1 v5 q5 hb1 hx1
noncomputable def f_Le_spread_L74 (B : Nat) (v1 : Int32) (v5 : Int32) (s : St) : Option ((Int32 × St) ⊕ (Int32 × St)) :=
  if (s.1 (B + 14) 2) ≤ v5 then
  some (.inr (v5, s))
  else
  if 100 ≤ v5 then
  some (.inr (v5, s))
  else
  gd v5 100 <|
  lt (s.1 (B + 16) (v5 : Int32).toNatClampNeg) fun x14 =>
  gd x14 101 <|
  gd x14 101 <|
  (f_Le_followWords B (s.1 (B + 7) (x14 : Int32).toNatClampNeg) (s.1 (B + 8) (x14 : Int32).toNatClampNeg) x14 v1 s).bind fun q15 =>
  some (.inl ((v5 + 1), q15))
set_option maxHeartbeats 4000000 in
set_option maxRecDepth 100000 in
theorem t_Le_spread_L74 (G : GG) (hR : gR G = rmx 4 96) (hL : gL G = 7) (C : Cx SC G cX3_spread RX3) {Acc : ((Int32 × St) ⊕ (Int32 × St)) → Prop} {B : Nat} (hB : isM B) (v1 : Int32) (v5 : Int32) (s : St) (hb1 : ∀ (a5 : Int32) (t : St), Acc (.inl (a5, t)) → KK SC G 74 [(0, .ref (ad G (B + 14))), (1, .int v1), (2, .ref (ad G (B + 6))), (3, .ref (ad G (B + 1))), (5, .int a5)] [] t) (hx1 : ∀ (a5 : Int32) (t : St), Acc (.inr (a5, t)) → KK SC G 131 [(0, .ref (ad G (B + 14))), (1, .int v1), (2, .ref (ad G (B + 6))), (3, .ref (ad G (B + 1))), (5, .int a5)] [] t) : JJ SC G Acc (f_Le_spread_L74 B v1 v5 s) 74 [(0, .ref (ad G (B + 14))), (1, .int v1), (2, .ref (ad G (B + 6))), (3, .ref (ad G (B + 1))), (5, .int v5)] [] s := by
  unfold f_Le_spread_L74
  refine jr_iload C 4 rfl dX3_spread_74 ?_
  refine jr_aload_n C 0 rfl rfl dX3_spread_76 ?_
  refine jr_getI C FX_3 2 (oM_14 hB).1 (oM_14 hB).2 ff_3_2.1 ff_3_2.2 fl_X3_18 dX3_spread_77 ?_
  refine jr_icmp_ge C (tgt := 131) dX3_spread_80 (by decide) (fun h12 => ?_) (fun h12 => ?_)
  · refine jo_pos h12 ?_
    exact jr_end (fun h => hx1 v5 s h)
  refine jo_neg h12 ?_
  refine jr_iload C 4 rfl dX3_spread_83 ?_
  refine jr_aload_n C 0 rfl rfl dX3_spread_85 ?_
  refine jr_getR C FX_3 1 (oM_14 hB).1 (oM_14 hB).2 ff_3_1.1 ff_3_1.2 (rM_14_1 _ hB) fl_X3_15 dX3_spread_86 ?_
  refine jr_alen C (oM_16 hB).1 (oM_16 hB).2.1 (oM_16 hB).2.2 (v := 100) (by decide) dX3_spread_89 ?_
  refine jr_icmp_ge C (tgt := 131) dX3_spread_90 (by decide) (fun h13 => ?_) (fun h13 => ?_)
  · refine jo_pos h13 ?_
    exact jr_end (fun h => hx1 v5 s h)
  refine jo_neg h13 ?_
  refine jr_aload_n C 0 rfl rfl dX3_spread_93 ?_
  refine jr_getR C FX_3 1 (oM_14 hB).1 (oM_14 hB).2 ff_3_1.1 ff_3_1.2 (rM_14_1 _ hB) fl_X3_15 dX3_spread_94 ?_
  refine jr_iload C 4 rfl dX3_spread_97 ?_
  refine jr_iald C (oM_16 hB).1 (oM_16 hB).2.1 (oM_16 hB).2.2 dX3_spread_99 ?_
  refine jr_ltI (fun x14 => ?_)
  refine jr_istore C (lv' := [(6, .int x14), (0, .ref (ad G (B + 14))), (1, .int v1), (2, .ref (ad G (B + 6))), (3, .ref (ad G (B + 1))), (5, .int v5)]) (ltL hL rfl) rfl dX3_spread_100 ?_
  refine jr_aload_n C 1 rfl rfl dX3_spread_102 ?_
  refine jr_aload_n C 3 rfl rfl dX3_spread_103 ?_
  refine jr_getR C FX_2 0 (oM_6 hB).1 (oM_6 hB).2 ff_2_0.1 ff_2_0.2 (rM_6_0 _ hB) fl_X3_33 dX3_spread_104 ?_
  refine jr_iload C 0 rfl dX3_spread_107 ?_
  refine jr_iald C (oM_7 hB).1 (oM_7 hB).2.1 (oM_7 hB).2.2 dX3_spread_109 ?_
  refine jr_aload_n C 3 rfl rfl dX3_spread_110 ?_
  refine jr_getR C FX_2 1 (oM_6 hB).1 (oM_6 hB).2 ff_2_1.1 ff_2_1.2 (rM_6_1 _ hB) fl_X3_36 dX3_spread_111 ?_
  refine jr_iload C 0 rfl dX3_spread_114 ?_
  refine jr_iald C (oM_8 hB).1 (oM_8 hB).2.1 (oM_8 hB).2.2 dX3_spread_116 ?_
  refine jr_iload C 0 rfl dX3_spread_117 ?_
  refine jr_iload_n C 2 rfl rfl dX3_spread_119 ?_
  refine jr_aload_n C 3 rfl rfl dX3_spread_120 ?_
  refine jr_aload_n C 4 rfl rfl dX3_spread_121 ?_
  refine jr_bind (fun q15 e16 => ?_)
  refine jr_callVV C FX_3 km_X3_39 (oM_14 hB).1 (oM_14 hB).2 (rk hR rfl) (c_Le_followWords (gl G) hB (s.1 (B + 7) (x14 : Int32).toNatClampNeg) (s.1 (B + 8) (x14 : Int32).toNatClampNeg) x14 v1 s e16) rfl rfl rfl (Nat.le_of_ble_eq_true rfl) dX3_spread_122 ?_
  refine jr_iinc C 5 rfl ii_1 (lv' := [(5, .int (v5 + 1)), (6, .int x14), (0, .ref (ad G (B + 14))), (1, .int v1), (2, .ref (ad G (B + 6))), (3, .ref (ad G (B + 1)))]) (ltL hL rfl) rfl dX3_spread_125 ?_
  refine jr_goto C (tgt := 74) dX3_spread_128 (by decide) ?_
  refine jr_lv [2, 3, 4, 5, 0] rfl ?_
  exact jr_end (fun h => hb1 (v5 + 1) q15 h)
noncomputable def f_Le_spread (B : Nat) (v1 : Int32) (s : St) : Option St :=
  (wh (fun a : (Int32 × St) => f_Le_spread_L3 B v1 a.1 a.2) (0, s)).bind (fun b7 =>
  (f_Le_followWords B 256 256 0 v1 (b7.2)).bind fun q8 =>
  (f_Le_followWords B 3072 1024 0 v1 q8).bind fun q10 =>
  (wh (fun a : (Int32 × St) => f_Le_spread_L74 B v1 a.1 a.2) (0, q10)).bind (fun b17 =>
  some (b17.2)))
set_option maxHeartbeats 4000000 in
set_option maxRecDepth 100000 in
theorem t_Le_spread (G : GG) (hR : gR G = rmx 4 96) (hL : gL G = 7) (C : Cx SC G cX3_spread RX3) {Acc : St → Prop} {B : Nat} (hB : isM B) (v1 : Int32) (s : St) (hr : ∀ v : St, Acc v → RtV SC G cX3_spread v) : JJ SC G Acc (f_Le_spread B v1 s) 0 [(0, .ref (ad G (B + 14))), (1, .int v1), (2, .ref (ad G (B + 6))), (3, .ref (ad G (B + 1))), (4, .ref (ad G (B + 25)))] [] s := by
  unfold f_Le_spread
  refine jr_iconst C ic_0 dX3_spread_0 ?_
  refine jr_istore C (lv' := [(5, .int 0), (0, .ref (ad G (B + 14))), (1, .int v1), (2, .ref (ad G (B + 6))), (3, .ref (ad G (B + 1))), (4, .ref (ad G (B + 25)))]) (ltL hL rfl) rfl dX3_spread_1 ?_
  refine jr_lv [1, 2, 3, 4, 5, 0] rfl ?_
  refine jr_loopB (pc := 3) (pcx := 43) (f := fun a : (Int32 × St) => f_Le_spread_L3 B v1 a.1 a.2) (fun a : (Int32 × St) => [(0, .ref (ad G (B + 14))), (1, .int v1), (2, .ref (ad G (B + 6))), (3, .ref (ad G (B + 1))), (4, .ref (ad G (B + 25))), (5, .int (a.1))]) (fun a : (Int32 × St) => a.2) (0, s) (fun a => t_Le_spread_L3 G hR hL C hB v1 a.1 a.2 (fun _ _ h => h) (fun _ _ h => h)) (fun b7 => ?_)
  refine jr_aload_n C 0 rfl rfl dX3_spread_43 ?_
  refine jr_sipush C sp_256 dX3_spread_44 ?_
  refine jr_sipush C sp_256 dX3_spread_47 ?_
  refine jr_iconst C ic_0 dX3_spread_50 ?_
  refine jr_iload_n C 1 rfl rfl dX3_spread_51 ?_
  refine jr_aload_n C 2 rfl rfl dX3_spread_52 ?_
  refine jr_aload_n C 3 rfl rfl dX3_spread_53 ?_
  refine jr_bind (fun q8 e9 => ?_)
  refine jr_callVV C FX_3 km_X3_39 (oM_14 hB).1 (oM_14 hB).2 (rk hR rfl) (c_Le_followWords (gl G) hB 256 256 0 v1 (b7.2) e9) rfl rfl rfl (Nat.le_of_ble_eq_true rfl) dX3_spread_54 ?_
  refine jr_aload_n C 0 rfl rfl dX3_spread_57 ?_
  refine jr_sipush C sp_3072 dX3_spread_58 ?_
  refine jr_sipush C sp_1024 dX3_spread_61 ?_
  refine jr_iconst C ic_0 dX3_spread_64 ?_
  refine jr_iload_n C 1 rfl rfl dX3_spread_65 ?_
  refine jr_aload_n C 2 rfl rfl dX3_spread_66 ?_
  refine jr_aload_n C 3 rfl rfl dX3_spread_67 ?_
  refine jr_bind (fun q10 e11 => ?_)
  refine jr_callVV C FX_3 km_X3_39 (oM_14 hB).1 (oM_14 hB).2 (rk hR rfl) (c_Le_followWords (gl G) hB 3072 1024 0 v1 q8 e11) rfl rfl rfl (Nat.le_of_ble_eq_true rfl) dX3_spread_68 ?_
  refine jr_iconst C ic_0 dX3_spread_71 ?_
  refine jr_istore C (lv' := [(5, .int 0), (0, .ref (ad G (B + 14))), (1, .int v1), (2, .ref (ad G (B + 6))), (3, .ref (ad G (B + 1))), (4, .ref (ad G (B + 25)))]) (ltL hL rfl) rfl dX3_spread_72 ?_
  refine jr_lv [1, 2, 3, 4, 0] rfl ?_
  refine jr_loopB (pc := 74) (pcx := 131) (f := fun a : (Int32 × St) => f_Le_spread_L74 B v1 a.1 a.2) (fun a : (Int32 × St) => [(0, .ref (ad G (B + 14))), (1, .int v1), (2, .ref (ad G (B + 6))), (3, .ref (ad G (B + 1))), (5, .int (a.1))]) (fun a : (Int32 × St) => a.2) (0, q10) (fun a => t_Le_spread_L74 G hR hL C hB v1 a.1 a.2 (fun _ _ h => h) (fun _ _ h => h)) (fun b17 => ?_)
  exact jr_end (fun h => hr (b17.2) h _ _ dX3_spread_131)
set_option maxRecDepth 100000 in
theorem c_Le_spread (l : Launch) {B : Nat} (hB : isM B) (v1 : Int32) (s : St) {q : St} (h : f_Le_spread B v1 s = some q) : CT SC l yX3_spread cX3_spread 7 none 4 96 (fun a => [.ref (a (B + 14)), .int v1, .ref (a (B + 6)), .ref (a (B + 1)), .ref (a (B + 25))]) s q (fun _ => none) :=
  ct_V okX_C (by decide) (fun _ => Nat.le_of_ble_eq_true rfl) (fun G hl hR hL C hr => t_Le_spread G hR hL C (Acc := fun v => v = q) hB v1 s (fun v hv => by rw [hv]; exact hr) ⟨_, h, rfl⟩)
noncomputable def f_Le_verdict_L8 (B : Nat) (v1 : Int32) (v5 : Int32) (s : St) : Option ((Int32 × St) ⊕ (Int32 × St)) :=
  if 101 ≤ v5 then
  some (.inr (v5, s))
  else
  gd v5 101 <|
  lt (uI s (B + 15) (v5 : Int32).toNatClampNeg 0) fun s3 =>
  some (.inl ((v5 + 1), s3))
set_option maxHeartbeats 4000000 in
set_option maxRecDepth 100000 in
theorem t_Le_verdict_L8 (G : GG) (hR : gR G = rmx 5 122) (hL : gL G = 6) (C : Cx SC G cX3_verdict RX3) {Acc : ((Int32 × St) ⊕ (Int32 × St)) → Prop} {B : Nat} (hB : isM B) (v1 : Int32) (v5 : Int32) (s : St) (hb1 : ∀ (a5 : Int32) (t : St), Acc (.inl (a5, t)) → KK SC G 8 [(0, .ref (ad G (B + 14))), (1, .int v1), (2, .ref (ad G (B + 6))), (3, .ref (ad G (B + 1))), (4, .ref (ad G (B + 25))), (5, .int a5)] [] t) (hx1 : ∀ (a5 : Int32) (t : St), Acc (.inr (a5, t)) → KK SC G 32 [(0, .ref (ad G (B + 14))), (1, .int v1), (2, .ref (ad G (B + 6))), (3, .ref (ad G (B + 1))), (4, .ref (ad G (B + 25))), (5, .int a5)] [] t) : JJ SC G Acc (f_Le_verdict_L8 B v1 v5 s) 8 [(0, .ref (ad G (B + 14))), (1, .int v1), (2, .ref (ad G (B + 6))), (3, .ref (ad G (B + 1))), (4, .ref (ad G (B + 25))), (5, .int v5)] [] s := by
  unfold f_Le_verdict_L8
  refine jr_iload C 5 rfl dX3_verdict_8 ?_
  refine jr_aload_n C 0 rfl rfl dX3_verdict_10 ?_
  refine jr_getR C FX_3 0 (oM_14 hB).1 (oM_14 hB).2 ff_3_0.1 ff_3_0.2 (rM_14_0 _ hB) fl_X3_9 dX3_verdict_11 ?_
  refine jr_alen C (oM_15 hB).1 (oM_15 hB).2.1 (oM_15 hB).2.2 (v := 101) (by decide) dX3_verdict_14 ?_
  refine jr_icmp_ge C (tgt := 32) dX3_verdict_15 (by decide) (fun h2 => ?_) (fun h2 => ?_)
  · refine jo_pos h2 ?_
    exact jr_end (fun h => hx1 v5 s h)
  refine jo_neg h2 ?_
  refine jr_aload_n C 0 rfl rfl dX3_verdict_18 ?_
  refine jr_getR C FX_3 0 (oM_14 hB).1 (oM_14 hB).2 ff_3_0.1 ff_3_0.2 (rM_14_0 _ hB) fl_X3_9 dX3_verdict_19 ?_
  refine jr_iload C 5 rfl dX3_verdict_22 ?_
  refine jr_iconst C ic_0 dX3_verdict_24 ?_
  refine jr_iast C (oM_15 hB).1 (oM_15 hB).2.1 (oM_15 hB).2.2 dX3_verdict_25 (jr_ltS fun s3 => ?_)
  refine jr_iinc C 5 rfl ii_1 (lv' := [(5, .int (v5 + 1)), (0, .ref (ad G (B + 14))), (1, .int v1), (2, .ref (ad G (B + 6))), (3, .ref (ad G (B + 1))), (4, .ref (ad G (B + 25)))]) (ltL hL rfl) rfl dX3_verdict_26 ?_
  refine jr_goto C (tgt := 8) dX3_verdict_29 (by decide) ?_
  refine jr_lv [1, 2, 3, 4, 5, 0] rfl ?_
  exact jr_end (fun h => hb1 (v5 + 1) s3 h)
noncomputable def f_Le_verdict_J105_1 (B : Nat) (v1 : Int32) (v5 : Int32) (s : St) : Option ((Int32 × St) ⊕ (Int32 × St)) :=
  some (.inl ((v5 + 1), s))
set_option maxHeartbeats 4000000 in
set_option maxRecDepth 100000 in
theorem t_Le_verdict_J105_1 (G : GG) (hR : gR G = rmx 5 122) (hL : gL G = 6) (C : Cx SC G cX3_verdict RX3) {Acc : ((Int32 × St) ⊕ (Int32 × St)) → Prop} {B : Nat} (hB : isM B) (v1 : Int32) (v5 : Int32) (s : St) (hb1 : ∀ (a5 : Int32) (t : St), Acc (.inl (a5, t)) → KK SC G 53 [(0, .ref (ad G (B + 14))), (1, .int v1), (2, .ref (ad G (B + 6))), (3, .ref (ad G (B + 1))), (5, .int a5)] [] t) (hx1 : ∀ (a5 : Int32) (t : St), Acc (.inr (a5, t)) → KK SC G 111 [(0, .ref (ad G (B + 14))), (1, .int v1), (2, .ref (ad G (B + 6))), (3, .ref (ad G (B + 1))), (5, .int a5)] [] t) : JJ SC G Acc (f_Le_verdict_J105_1 B v1 v5 s) 105 [(0, .ref (ad G (B + 14))), (1, .int v1), (2, .ref (ad G (B + 6))), (3, .ref (ad G (B + 1))), (5, .int v5)] [] s := by
  unfold f_Le_verdict_J105_1
  refine jr_iinc C 4 rfl ii_1 (lv' := [(5, .int (v5 + 1)), (0, .ref (ad G (B + 14))), (1, .int v1), (2, .ref (ad G (B + 6))), (3, .ref (ad G (B + 1)))]) (ltL hL rfl) rfl dX3_verdict_105 ?_
  refine jr_goto C (tgt := 53) dX3_verdict_108 (by decide) ?_
  refine jr_lv [1, 2, 3, 4, 0] rfl ?_
  exact jr_end (fun h => hb1 (v5 + 1) s h)
noncomputable def f_Le_verdict_L53 (B : Nat) (v1 : Int32) (v5 : Int32) (s : St) : Option ((Int32 × St) ⊕ (Int32 × St)) :=
  if (s.1 (B + 6) 5) < v5 then
  some (.inr (v5, s))
  else
  (f_He_isInUse B v5 s).bind fun q10 =>
  if q10 = 0 then
  f_Le_verdict_J105_1 B v1 v5 s
  else
  gd v5 101 <|
  if 1 < (s.1 (B + 15) (v5 : Int32).toNatClampNeg) then
  f_Le_verdict_J105_1 B v1 v5 s
  else
  gd v5 101 <|
  gd v5 101 <|
  (f_Le_followWords B (s.1 (B + 7) (v5 : Int32).toNatClampNeg) (s.1 (B + 8) (v5 : Int32).toNatClampNeg) v5 1 s).bind fun q14 =>
  f_Le_verdict_J105_1 B v1 v5 q14
set_option maxHeartbeats 4000000 in
set_option maxRecDepth 100000 in
theorem t_Le_verdict_L53 (G : GG) (hR : gR G = rmx 5 122) (hL : gL G = 6) (C : Cx SC G cX3_verdict RX3) {Acc : ((Int32 × St) ⊕ (Int32 × St)) → Prop} {B : Nat} (hB : isM B) (v1 : Int32) (v5 : Int32) (s : St) (hb1 : ∀ (a5 : Int32) (t : St), Acc (.inl (a5, t)) → KK SC G 53 [(0, .ref (ad G (B + 14))), (1, .int v1), (2, .ref (ad G (B + 6))), (3, .ref (ad G (B + 1))), (5, .int a5)] [] t) (hx1 : ∀ (a5 : Int32) (t : St), Acc (.inr (a5, t)) → KK SC G 111 [(0, .ref (ad G (B + 14))), (1, .int v1), (2, .ref (ad G (B + 6))), (3, .ref (ad G (B + 1))), (5, .int a5)] [] t) : JJ SC G Acc (f_Le_verdict_L53 B v1 v5 s) 53 [(0, .ref (ad G (B + 14))), (1, .int v1), (2, .ref (ad G (B + 6))), (3, .ref (ad G (B + 1))), (5, .int v5)] [] s := by
  unfold f_Le_verdict_L53
  refine jr_iload C 4 rfl dX3_verdict_53 ?_
  refine jr_aload_n C 2 rfl rfl dX3_verdict_55 ?_
  refine jr_getI C FX_2 5 (oM_6 hB).1 (oM_6 hB).2 ff_2_5.1 ff_2_5.2 fl_X3_26 dX3_verdict_56 ?_
  refine jr_icmp_gt C (tgt := 111) dX3_verdict_59 (by decide) (fun h9 => ?_) (fun h9 => ?_)
  · refine jo_pos h9 ?_
    exact jr_end (fun h => hx1 v5 s h)
  refine jo_neg h9 ?_
  refine jr_aload_n C 2 rfl rfl dX3_verdict_62 ?_
  refine jr_iload C 4 rfl dX3_verdict_63 ?_
  refine jr_bind (fun q10 e11 => ?_)
  refine jr_callVI C FX_2 km_X3_29 (oM_6 hB).1 (oM_6 hB).2 (rk hR rfl) (c_He_isInUse (gl G) hB v5 s e11) rfl rfl rfl (Nat.le_of_ble_eq_true rfl) dX3_verdict_65 ?_
  refine jr_if_eq C (tgt := 105) dX3_verdict_68 (by decide) (fun h12 => ?_) (fun h12 => ?_)
  · refine jo_pos h12 ?_
    exact t_Le_verdict_J105_1 G hR hL C hB v1 v5 s hb1 hx1
  refine jo_neg h12 ?_
  refine jr_aload_n C 0 rfl rfl dX3_verdict_71 ?_
  refine jr_getR C FX_3 0 (oM_14 hB).1 (oM_14 hB).2 ff_3_0.1 ff_3_0.2 (rM_14_0 _ hB) fl_X3_9 dX3_verdict_72 ?_
  refine jr_iload C 4 rfl dX3_verdict_75 ?_
  refine jr_iald C (oM_15 hB).1 (oM_15 hB).2.1 (oM_15 hB).2.2 dX3_verdict_77 ?_
  refine jr_iconst C ic_1 dX3_verdict_78 ?_
  refine jr_icmp_gt C (tgt := 105) dX3_verdict_79 (by decide) (fun h13 => ?_) (fun h13 => ?_)
  · refine jo_pos h13 ?_
    exact t_Le_verdict_J105_1 G hR hL C hB v1 v5 s hb1 hx1
  refine jo_neg h13 ?_
  refine jr_aload_n C 0 rfl rfl dX3_verdict_82 ?_
  refine jr_aload_n C 2 rfl rfl dX3_verdict_83 ?_
  refine jr_getR C FX_2 0 (oM_6 hB).1 (oM_6 hB).2 ff_2_0.1 ff_2_0.2 (rM_6_0 _ hB) fl_X3_33 dX3_verdict_84 ?_
  refine jr_iload C 4 rfl dX3_verdict_87 ?_
  refine jr_iald C (oM_7 hB).1 (oM_7 hB).2.1 (oM_7 hB).2.2 dX3_verdict_89 ?_
  refine jr_aload_n C 2 rfl rfl dX3_verdict_90 ?_
  refine jr_getR C FX_2 1 (oM_6 hB).1 (oM_6 hB).2 ff_2_1.1 ff_2_1.2 (rM_6_1 _ hB) fl_X3_36 dX3_verdict_91 ?_
  refine jr_iload C 4 rfl dX3_verdict_94 ?_
  refine jr_iald C (oM_8 hB).1 (oM_8 hB).2.1 (oM_8 hB).2.2 dX3_verdict_96 ?_
  refine jr_iload C 4 rfl dX3_verdict_97 ?_
  refine jr_iconst C ic_1 dX3_verdict_99 ?_
  refine jr_aload_n C 2 rfl rfl dX3_verdict_100 ?_
  refine jr_aload_n C 3 rfl rfl dX3_verdict_101 ?_
  refine jr_bind (fun q14 e15 => ?_)
  refine jr_callVV C FX_3 km_X3_39 (oM_14 hB).1 (oM_14 hB).2 (rk hR rfl) (c_Le_followWords (gl G) hB (s.1 (B + 7) (v5 : Int32).toNatClampNeg) (s.1 (B + 8) (v5 : Int32).toNatClampNeg) v5 1 s e15) rfl rfl rfl (Nat.le_of_ble_eq_true rfl) dX3_verdict_102 ?_
  exact t_Le_verdict_J105_1 G hR hL C hB v1 v5 q14 hb1 hx1
noncomputable def f_Le_verdict (B : Nat) (v1 : Int32) (s : St) : Option (Int32 × St) :=
  lt (uI s (B + 14) 2 0) fun s1 =>
  (wh (fun a : (Int32 × St) => f_Le_verdict_L8 B v1 a.1 a.2) (0, s1)).bind (fun b4 =>
  (f_Le_spread B 3 (b4.2)).bind fun q5 =>
  (f_Le_spread B 2 q5).bind fun q7 =>
  (wh (fun a : (Int32 × St) => f_Le_verdict_L53 B v1 a.1 a.2) (1, q7)).bind (fun b16 =>
  gd v1 101 <|
  some ((b16.2.1 (B + 15) (v1 : Int32).toNatClampNeg), b16.2)))
set_option maxHeartbeats 4000000 in
set_option maxRecDepth 100000 in
theorem t_Le_verdict (G : GG) (hR : gR G = rmx 5 122) (hL : gL G = 6) (C : Cx SC G cX3_verdict RX3) {Acc : (Int32 × St) → Prop} {B : Nat} (hB : isM B) (v1 : Int32) (s : St) (hr : ∀ v : (Int32 × St), Acc v → RtI SC G cX3_verdict v.1 v.2) : JJ SC G Acc (f_Le_verdict B v1 s) 0 [(0, .ref (ad G (B + 14))), (1, .int v1), (2, .ref (ad G (B + 6))), (3, .ref (ad G (B + 1))), (4, .ref (ad G (B + 25)))] [] s := by
  unfold f_Le_verdict
  refine jr_aload_n C 0 rfl rfl dX3_verdict_0 ?_
  refine jr_iconst C ic_0 dX3_verdict_1 ?_
  refine jr_putI C FX_3 2 (oM_14 hB).1 (oM_14 hB).2 ff_3_2.1 ff_3_2.2 rfl rfl fl_X3_18 dX3_verdict_2 (jr_ltS fun s1 => ?_)
  refine jr_iconst C ic_0 dX3_verdict_5 ?_
  refine jr_istore C (lv' := [(5, .int 0), (0, .ref (ad G (B + 14))), (1, .int v1), (2, .ref (ad G (B + 6))), (3, .ref (ad G (B + 1))), (4, .ref (ad G (B + 25)))]) (ltL hL rfl) rfl dX3_verdict_6 ?_
  refine jr_lv [1, 2, 3, 4, 5, 0] rfl ?_
  refine jr_loopB (pc := 8) (pcx := 32) (f := fun a : (Int32 × St) => f_Le_verdict_L8 B v1 a.1 a.2) (fun a : (Int32 × St) => [(0, .ref (ad G (B + 14))), (1, .int v1), (2, .ref (ad G (B + 6))), (3, .ref (ad G (B + 1))), (4, .ref (ad G (B + 25))), (5, .int (a.1))]) (fun a : (Int32 × St) => a.2) (0, s1) (fun a => t_Le_verdict_L8 G hR hL C hB v1 a.1 a.2 (fun _ _ h => h) (fun _ _ h => h)) (fun b4 => ?_)
  refine jr_aload_n C 0 rfl rfl dX3_verdict_32 ?_
  refine jr_iconst C ic_3 dX3_verdict_33 ?_
  refine jr_aload_n C 2 rfl rfl dX3_verdict_34 ?_
  refine jr_aload_n C 3 rfl rfl dX3_verdict_35 ?_
  refine jr_aload C 4 rfl dX3_verdict_36 ?_
  refine jr_bind (fun q5 e6 => ?_)
  refine jr_callVV C FX_3 km_X3_22 (oM_14 hB).1 (oM_14 hB).2 (rk hR rfl) (c_Le_spread (gl G) hB 3 (b4.2) e6) rfl rfl rfl (Nat.le_of_ble_eq_true rfl) dX3_verdict_38 ?_
  refine jr_aload_n C 0 rfl rfl dX3_verdict_41 ?_
  refine jr_iconst C ic_2 dX3_verdict_42 ?_
  refine jr_aload_n C 2 rfl rfl dX3_verdict_43 ?_
  refine jr_aload_n C 3 rfl rfl dX3_verdict_44 ?_
  refine jr_aload C 4 rfl dX3_verdict_45 ?_
  refine jr_bind (fun q7 e8 => ?_)
  refine jr_callVV C FX_3 km_X3_22 (oM_14 hB).1 (oM_14 hB).2 (rk hR rfl) (c_Le_spread (gl G) hB 2 q5 e8) rfl rfl rfl (Nat.le_of_ble_eq_true rfl) dX3_verdict_47 ?_
  refine jr_iconst C ic_1 dX3_verdict_50 ?_
  refine jr_istore C (lv' := [(5, .int 1), (0, .ref (ad G (B + 14))), (1, .int v1), (2, .ref (ad G (B + 6))), (3, .ref (ad G (B + 1))), (4, .ref (ad G (B + 25)))]) (ltL hL rfl) rfl dX3_verdict_51 ?_
  refine jr_lv [1, 2, 3, 4, 0] rfl ?_
  refine jr_loopB (pc := 53) (pcx := 111) (f := fun a : (Int32 × St) => f_Le_verdict_L53 B v1 a.1 a.2) (fun a : (Int32 × St) => [(0, .ref (ad G (B + 14))), (1, .int v1), (2, .ref (ad G (B + 6))), (3, .ref (ad G (B + 1))), (5, .int (a.1))]) (fun a : (Int32 × St) => a.2) (1, q7) (fun a => t_Le_verdict_L53 G hR hL C hB v1 a.1 a.2 (fun _ _ h => h) (fun _ _ h => h)) (fun b16 => ?_)
  refine jr_aload_n C 0 rfl rfl dX3_verdict_111 ?_
  refine jr_getR C FX_3 0 (oM_14 hB).1 (oM_14 hB).2 ff_3_0.1 ff_3_0.2 (rM_14_0 _ hB) fl_X3_9 dX3_verdict_112 ?_
  refine jr_iload_n C 1 rfl rfl dX3_verdict_115 ?_
  refine jr_iald C (oM_15 hB).1 (oM_15 hB).2.1 (oM_15 hB).2.2 dX3_verdict_116 ?_
  exact jr_end (fun h => hr ((b16.2.1 (B + 15) (v1 : Int32).toNatClampNeg), b16.2) h _ _ dX3_verdict_117)
set_option maxRecDepth 100000 in
theorem c_Le_verdict (l : Launch) {B : Nat} (hB : isM B) (v1 : Int32) (s : St) {q : (Int32 × St)} (h : f_Le_verdict B v1 s = some q) : CT SC l yX3_verdict cX3_verdict 6 (some .int) 5 122 (fun a => [.ref (a (B + 14)), .int v1, .ref (a (B + 6)), .ref (a (B + 1)), .ref (a (B + 25))]) s q.2 (fun _ => some (.int q.1)) :=
  ct_I okX_C (by decide) (fun _ => Nat.le_of_ble_eq_true rfl) (fun G hl hR hL C hr => t_Le_verdict G hR hL C (Acc := fun v => v = q) hB v1 s (fun v hv => by rw [hv]; exact hr) ⟨_, h, rfl⟩)
noncomputable def f_Ma_tellBlock (B : Nat) (v1 : Int32) (v2 : Int32) (s : St) : Option (Int32 × St) :=
  if v2 = 5 then
  ((f_He_isInUse B v1 s).bind fun q2 =>
  if q2 = 0 then
  some ((-1), s)
  else
  (f_Le_verdict B v1 s).bind fun q5 =>
  some (q5.1, q5.2))
  else
  (f_He_tell B v1 v2 s).bind fun q7 =>
  some (q7, s)
set_option maxHeartbeats 4000000 in
set_option maxRecDepth 100000 in
theorem t_Ma_tellBlock (G : GG) (hR : gR G = rmx 6 147) (hL : gL G = 3) (C : Cx SC G cX5_tellBlock RX5) {Acc : (Int32 × St) → Prop} {B : Nat} (hB : isM B) (v1 : Int32) (v2 : Int32) (s : St) (hr : ∀ v : (Int32 × St), Acc v → RtI SC G cX5_tellBlock v.1 v.2) : JJ SC G Acc (f_Ma_tellBlock B v1 v2 s) 0 [(0, .ref (ad G B)), (1, .int v1), (2, .int v2)] [] s := by
  unfold f_Ma_tellBlock
  refine jr_iload_n C 2 rfl rfl dX5_tellBlock_0 ?_
  refine jr_iconst C ic_5 dX5_tellBlock_1 ?_
  refine jr_icmp_eq C (tgt := 15) dX5_tellBlock_2 (by decide) (fun h1 => ?_) (fun h1 => ?_)
  · refine jo_pos h1 ?_
    refine jr_aload_n C 0 rfl rfl dX5_tellBlock_15 ?_
    refine jr_getR C FX_5 2 (oM_0 hB).1 (oM_0 hB).2 ff_5_2.1 ff_5_2.2 (rM_0_2 _ hB) fl_X5_21 dX5_tellBlock_16 ?_
    refine jr_iload_n C 1 rfl rfl dX5_tellBlock_19 ?_
    refine jr_bind (fun q2 e3 => ?_)
    refine jr_callVI C FX_2 km_X5_150 (oM_6 hB).1 (oM_6 hB).2 (rk hR rfl) (c_He_isInUse (gl G) hB v1 s e3) rfl rfl rfl (Nat.le_of_ble_eq_true rfl) dX5_tellBlock_20 ?_
    refine jr_if_eq C (tgt := 49) dX5_tellBlock_23 (by decide) (fun h4 => ?_) (fun h4 => ?_)
    · refine jo_pos h4 ?_
      refine jr_iconst C ic_m1 dX5_tellBlock_49 ?_
      exact jr_end (fun h => hr ((-1), s) h _ _ dX5_tellBlock_50)
    refine jo_neg h4 ?_
    refine jr_aload_n C 0 rfl rfl dX5_tellBlock_26 ?_
    refine jr_getR C FX_5 3 (oM_0 hB).1 (oM_0 hB).2 ff_5_3.1 ff_5_3.2 (rM_0_3 _ hB) fl_X5_28 dX5_tellBlock_27 ?_
    refine jr_iload_n C 1 rfl rfl dX5_tellBlock_30 ?_
    refine jr_aload_n C 0 rfl rfl dX5_tellBlock_31 ?_
    refine jr_getR C FX_5 2 (oM_0 hB).1 (oM_0 hB).2 ff_5_2.1 ff_5_2.2 (rM_0_2 _ hB) fl_X5_21 dX5_tellBlock_32 ?_
    refine jr_aload_n C 0 rfl rfl dX5_tellBlock_35 ?_
    refine jr_getR C FX_5 1 (oM_0 hB).1 (oM_0 hB).2 ff_5_1.1 ff_5_1.2 (rM_0_1 _ hB) fl_X5_12 dX5_tellBlock_36 ?_
    refine jr_aload_n C 0 rfl rfl dX5_tellBlock_39 ?_
    refine jr_getR C FX_5 5 (oM_0 hB).1 (oM_0 hB).2 ff_5_5.1 ff_5_5.2 (rM_0_5 _ hB) fl_X5_41 dX5_tellBlock_40 ?_
    refine jr_bind (fun q5 e6 => ?_)
    refine jr_callVI C FX_3 km_X5_154 (oM_14 hB).1 (oM_14 hB).2 (rk hR rfl) (c_Le_verdict (gl G) hB v1 s e6) rfl rfl rfl (Nat.le_of_ble_eq_true rfl) dX5_tellBlock_43 ?_
    refine jr_goto C (tgt := 50) dX5_tellBlock_46 (by decide) ?_
    exact jr_end (fun h => hr (q5.1, q5.2) h _ _ dX5_tellBlock_50)
  refine jo_neg h1 ?_
  refine jr_aload_n C 0 rfl rfl dX5_tellBlock_5 ?_
  refine jr_getR C FX_5 2 (oM_0 hB).1 (oM_0 hB).2 ff_5_2.1 ff_5_2.2 (rM_0_2 _ hB) fl_X5_21 dX5_tellBlock_6 ?_
  refine jr_iload_n C 1 rfl rfl dX5_tellBlock_9 ?_
  refine jr_iload_n C 2 rfl rfl dX5_tellBlock_10 ?_
  refine jr_bind (fun q7 e8 => ?_)
  refine jr_callVI C FX_2 km_X5_146 (oM_6 hB).1 (oM_6 hB).2 (rk hR rfl) (c_He_tell (gl G) hB v1 v2 s e8) rfl rfl rfl (Nat.le_of_ble_eq_true rfl) dX5_tellBlock_11 ?_
  exact jr_end (fun h => hr (q7, s) h _ _ dX5_tellBlock_14)
set_option maxRecDepth 100000 in
theorem c_Ma_tellBlock (l : Launch) {B : Nat} (hB : isM B) (v1 : Int32) (v2 : Int32) (s : St) {q : (Int32 × St)} (h : f_Ma_tellBlock B v1 v2 s = some q) : CT SC l yX5_tellBlock cX5_tellBlock 3 (some .int) 6 147 (fun a => [.ref (a B), .int v1, .int v2]) s q.2 (fun _ => some (.int q.1)) :=
  ct_I okX_C (by decide) (fun _ => Nat.le_of_ble_eq_true rfl) (fun G hl hR hL C hr => t_Ma_tellBlock G hR hL C (Acc := fun v => v = q) hB v1 v2 s (fun v hv => by rw [hv]; exact hr) ⟨_, h, rfl⟩)
noncomputable def f_SB_block (v1 : Int32) (v2 : Int32) (s : St) : Option (Int32 × St) :=
  if (s.1 0 5) = 0 then
  some ((-1), s)
  else
  (f_Ma_tellBlock 20 v1 v2 s).bind fun q2 =>
  some (q2.1, q2.2)
set_option maxHeartbeats 4000000 in
set_option maxRecDepth 100000 in
theorem t_SB_block (G : GG) (hR : gR G = rmx 7 169) (hL : gL G = 3) (C : Cx SC G cX11_block RX11) {Acc : (Int32 × St) → Prop}  (v1 : Int32) (v2 : Int32) (s : St) (hr : ∀ v : (Int32 × St), Acc v → RtI SC G cX11_block v.1 v.2) : JJ SC G Acc (f_SB_block v1 v2 s) 0 [(0, .ref (ad G 0)), (1, .int v1), (2, .int v2)] [] s := by
  unfold f_SB_block
  refine jr_aload_n C 0 rfl rfl dX11_block_0 ?_
  refine jr_getI C FX_9 5 oC_0.1 oC_0.2 ff_9_5.1 ff_9_5.2 fl_X11_56 dX11_block_1 ?_
  refine jr_if_eq C (tgt := 19) dX11_block_4 (by decide) (fun h1 => ?_) (fun h1 => ?_)
  · refine jo_pos h1 ?_
    refine jr_iconst C ic_m1 dX11_block_19 ?_
    exact jr_end (fun h => hr ((-1), s) h _ _ dX11_block_20)
  refine jo_neg h1 ?_
  refine jr_aload_n C 0 rfl rfl dX11_block_7 ?_
  refine jr_getR C FX_9 6 oC_0.1 oC_0.2 ff_9_6.1 ff_9_6.2 rfl fl_X11_33 dX11_block_8 ?_
  refine jr_iload_n C 1 rfl rfl dX11_block_11 ?_
  refine jr_iload_n C 2 rfl rfl dX11_block_12 ?_
  refine jr_bind (fun q2 e3 => ?_)
  refine jr_callVI C FX_5 km_X11_124 (oM_0 isM_20).1 (oM_0 isM_20).2 (rk hR rfl) (c_Ma_tellBlock (gl G) isM_20 v1 v2 s e3) rfl rfl rfl (Nat.le_of_ble_eq_true rfl) dX11_block_13 ?_
  refine jr_goto C (tgt := 20) dX11_block_16 (by decide) ?_
  exact jr_end (fun h => hr (q2.1, q2.2) h _ _ dX11_block_20)
set_option maxRecDepth 100000 in
theorem c_SB_block (l : Launch)  (v1 : Int32) (v2 : Int32) (s : St) {q : (Int32 × St)} (h : f_SB_block v1 v2 s = some q) : CT SC l yX11_block cX11_block 3 (some .int) 7 169 (fun a => [.ref (a 0), .int v1, .int v2]) s q.2 (fun _ => some (.int q.1)) :=
  ct_I okX_C (by decide) (fun _ => Nat.le_of_ble_eq_true rfl) (fun G hl hR hL C hr => t_SB_block G hR hL C (Acc := fun v => v = q)  v1 v2 s (fun v hv => by rw [hv]; exact hr) ⟨_, h, rfl⟩)
noncomputable def f_SB_twin (v1 : Int32) (s : St) : Option (Int32 × St) :=
  if (s.1 0 5) = 0 then
  some ((-1), s)
  else
  gP (s.2.2 0) fun p2 =>
  (f_Ma_restart 58 p2 v1 (s.1 20 8) s).bind fun q4 =>
  lt (if (q4.1 0 8) < (q4.1 20 12) then (q4.1 0 8) else (q4.1 20 12)) fun x6 =>
  (f_Ma_advance 58 x6 q4).bind fun q7 =>
  lt (uI (q7.2) 0 8 ((q4.1 0 8) - q7.1)) fun s9 =>
  some ((s9.1 58 13), s9)
set_option maxHeartbeats 4000000 in
set_option maxRecDepth 100000 in
theorem t_SB_twin (G : GG) (hR : gR G = rmx 7 166) (hL : gL G = 2) (C : Cx SC G cX11_twin RX11) {Acc : (Int32 × St) → Prop}  (v1 : Int32) (s : St) (hr : ∀ v : (Int32 × St), Acc v → RtI SC G cX11_twin v.1 v.2) : JJ SC G Acc (f_SB_twin v1 s) 0 [(0, .ref (ad G 0)), (1, .int v1)] [] s := by
  unfold f_SB_twin
  refine jr_aload_n C 0 rfl rfl dX11_twin_0 ?_
  refine jr_getI C FX_9 5 oC_0.1 oC_0.2 ff_9_5.1 ff_9_5.2 fl_X11_56 dX11_twin_1 ?_
  refine jr_if_ne C (tgt := 9) dX11_twin_4 (by decide) (fun h1 => ?_) (fun h1 => ?_)
  · refine jo_neg h1 ?_
    refine jr_aload_n C 0 rfl rfl dX11_twin_9 ?_
    refine jr_getR C FX_9 7 oC_0.1 oC_0.2 ff_9_7.1 ff_9_7.2 rfl fl_X11_37 dX11_twin_10 ?_
    refine jr_aload_n C 0 rfl rfl dX11_twin_13 ?_
    refine jr_getP C FX_9 3 oC_0.1 oC_0.2 ff_9_3.1 ff_9_3.2 (fun hp => rX_p rfl (pne hp)) fl_X11_23 dX11_twin_14 (fun p2 h3 => ?_)
    refine jr_iload_n C 1 rfl rfl dX11_twin_17 ?_
    refine jr_aload_n C 0 rfl rfl dX11_twin_18 ?_
    refine jr_getR C FX_9 6 oC_0.1 oC_0.2 ff_9_6.1 ff_9_6.2 rfl fl_X11_33 dX11_twin_19 ?_
    refine jr_getI C FX_5 8 (oM_0 isM_20).1 (oM_0 isM_20).2 ff_5_8.1 ff_5_8.2 fl_X11_127 dX11_twin_22 ?_
    refine jr_bind (fun q4 e5 => ?_)
    refine jr_callVV C FX_5 km_X11_69 (oM_0 isM_58).1 (oM_0 isM_58).2 (rk hR rfl) (c_Ma_restart (gl G) isM_58 h3 v1 (s.1 20 8) s e5) rfl rfl rfl (Nat.le_of_ble_eq_true rfl) dX11_twin_25 ?_
    refine jr_aload_n C 0 rfl rfl dX11_twin_28 ?_
    refine jr_dup C rfl dX11_twin_29 ?_
    refine jr_getI C FX_9 8 oC_0.1 oC_0.2 ff_9_8.1 ff_9_8.2 fl_X11_41 dX11_twin_30 ?_
    refine jr_aload_n C 0 rfl rfl dX11_twin_33 ?_
    refine jr_getR C FX_9 7 oC_0.1 oC_0.2 ff_9_7.1 ff_9_7.2 rfl fl_X11_37 dX11_twin_34 ?_
    refine jr_aload_n C 0 rfl rfl dX11_twin_37 ?_
    refine jr_getR C FX_9 6 oC_0.1 oC_0.2 ff_9_6.1 ff_9_6.2 rfl fl_X11_33 dX11_twin_38 ?_
    refine jr_getI C FX_5 12 (oM_0 isM_20).1 (oM_0 isM_20).2 ff_5_12.1 ff_5_12.2 fl_X11_130 dX11_twin_41 ?_
    refine jr_aload_n C 0 rfl rfl dX11_twin_44 ?_
    refine jr_getI C FX_9 8 oC_0.1 oC_0.2 ff_9_8.1 ff_9_8.2 fl_X11_41 dX11_twin_45 ?_
    refine jr_min C km_X11_93 (rk2 hR rfl) (Nat.le_of_ble_eq_true rfl) dX11_twin_48 ?_
    refine jr_ltI (fun x6 => ?_)
    refine jr_bind (fun q7 e8 => ?_)
    refine jr_callVI C FX_5 km_X11_99 (oM_0 isM_58).1 (oM_0 isM_58).2 (rk hR rfl) (c_Ma_advance (gl G) isM_58 x6 q4 e8) rfl rfl rfl (Nat.le_of_ble_eq_true rfl) dX11_twin_51 ?_
    refine jr_isub C dX11_twin_54 ?_
    refine jr_putI C FX_9 8 oC_0.1 oC_0.2 ff_9_8.1 ff_9_8.2 rfl rfl fl_X11_41 dX11_twin_55 (jr_ltS fun s9 => ?_)
    refine jr_aload_n C 0 rfl rfl dX11_twin_58 ?_
    refine jr_getR C FX_9 7 oC_0.1 oC_0.2 ff_9_7.1 ff_9_7.2 rfl fl_X11_37 dX11_twin_59 ?_
    refine jr_getI C FX_5 13 (oM_0 isM_58).1 (oM_0 isM_58).2 ff_5_13.1 ff_5_13.2 fl_X11_133 dX11_twin_62 ?_
    exact jr_end (fun h => hr ((s9.1 58 13), s9) h _ _ dX11_twin_65)
  refine jo_pos h1 ?_
  refine jr_iconst C ic_m1 dX11_twin_7 ?_
  exact jr_end (fun h => hr ((-1), s) h _ _ dX11_twin_8)
set_option maxRecDepth 100000 in
theorem c_SB_twin (l : Launch)  (v1 : Int32) (s : St) {q : (Int32 × St)} (h : f_SB_twin v1 s = some q) : CT SC l yX11_twin cX11_twin 2 (some .int) 7 166 (fun a => [.ref (a 0), .int v1]) s q.2 (fun _ => some (.int q.1)) :=
  ct_I okX_C (by decide) (fun _ => Nat.le_of_ble_eq_true rfl) (fun G hl hR hL C hr => t_SB_twin G hR hL C (Acc := fun v => v = q)  v1 s (fun v hv => by rw [hv]; exact hr) ⟨_, h, rfl⟩)
