noncomputable def f_SB_layOnTape_L3 (v1 : Int32) (v2 : Int32) (s : St) : Option ((Int32 × St) ⊕ (Int32 × St)) :=
  if v2 < 0 then
  some (.inr (v2, s))
  else
  gd (s.1 0 1) 4000 <|
  lt (uI s 1 ((s.1 0 1) : Int32).toNatClampNeg ((((v1).toUInt32 >>> ((v2 : Int32).toUInt32 &&& Int32.toUInt32 31)).toInt32) &&& 255)) fun s2 =>
  lt (uI s2 0 1 ((s2.1 0 1) + 1)) fun s3 =>
  some (.inl ((v2 + (-8)), s3))
set_option maxHeartbeats 4000000 in
set_option maxRecDepth 100000 in
theorem t_SB_layOnTape_L3 (G : GG) (hR : gR G = rmx 0 0) (hL : gL G = 3) (C : Cx SC G cX11_layOnTape RX11) {Acc : ((Int32 × St) ⊕ (Int32 × St)) → Prop}  (v1 : Int32) (v2 : Int32) (s : St) (hb1 : ∀ (a2 : Int32) (t : St), Acc (.inl (a2, t)) → KK SC G 3 [(0, .ref (ad G 0)), (1, .int v1), (2, .int a2)] [] t) (hx1 : ∀ (a2 : Int32) (t : St), Acc (.inr (a2, t)) → KK SC G 39 [(0, .ref (ad G 0)), (1, .int v1), (2, .int a2)] [] t) : JJ SC G Acc (f_SB_layOnTape_L3 v1 v2 s) 3 [(0, .ref (ad G 0)), (1, .int v1), (2, .int v2)] [] s := by
  unfold f_SB_layOnTape_L3
  refine jr_iload_n C 2 rfl rfl dX11_layOnTape_3 ?_
  refine jr_if_lt C (tgt := 39) dX11_layOnTape_4 (by decide) (fun h1 => ?_) (fun h1 => ?_)
  · refine jo_pos h1 ?_
    exact jr_end (fun h => hx1 v2 s h)
  refine jo_neg h1 ?_
  refine jr_aload_n C 0 rfl rfl dX11_layOnTape_7 ?_
  refine jr_getR C FX_9 0 oC_0.1 oC_0.2 ff_9_0.1 ff_9_0.2 rfl fl_X11_9 dX11_layOnTape_8 ?_
  refine jr_aload_n C 0 rfl rfl dX11_layOnTape_11 ?_
  refine jr_getI C FX_9 1 oC_0.1 oC_0.2 ff_9_1.1 ff_9_1.2 fl_X11_45 dX11_layOnTape_12 ?_
  refine jr_iload_n C 1 rfl rfl dX11_layOnTape_15 ?_
  refine jr_iload_n C 2 rfl rfl dX11_layOnTape_16 ?_
  refine jr_iushr C dX11_layOnTape_17 ?_
  refine jr_sipush C sp_255 dX11_layOnTape_18 ?_
  refine jr_iand C dX11_layOnTape_21 ?_
  refine jr_iast C oC_1.1 oC_1.2.1 oC_1.2.2 dX11_layOnTape_22 (jr_ltS fun s2 => ?_)
  refine jr_aload_n C 0 rfl rfl dX11_layOnTape_23 ?_
  refine jr_dup C rfl dX11_layOnTape_24 ?_
  refine jr_getI C FX_9 1 oC_0.1 oC_0.2 ff_9_1.1 ff_9_1.2 fl_X11_45 dX11_layOnTape_25 ?_
  refine jr_iconst C ic_1 dX11_layOnTape_28 ?_
  refine jr_iadd C dX11_layOnTape_29 ?_
  refine jr_putI C FX_9 1 oC_0.1 oC_0.2 ff_9_1.1 ff_9_1.2 rfl rfl fl_X11_45 dX11_layOnTape_30 (jr_ltS fun s3 => ?_)
  refine jr_iinc C 2 rfl ii_m8 (lv' := [(2, .int (v2 + (-8))), (0, .ref (ad G 0)), (1, .int v1)]) (ltL hL rfl) rfl dX11_layOnTape_33 ?_
  refine jr_goto C (tgt := 3) dX11_layOnTape_36 (by decide) ?_
  refine jr_lv [1, 2, 0] rfl ?_
  exact jr_end (fun h => hb1 (v2 + (-8)) s3 h)
noncomputable def f_SB_layOnTape (v1 : Int32) (s : St) : Option St :=
  (wh (fun a : (Int32 × St) => f_SB_layOnTape_L3 v1 a.1 a.2) (24, s)).bind (fun b4 =>
  some (b4.2))
set_option maxHeartbeats 4000000 in
set_option maxRecDepth 100000 in
theorem t_SB_layOnTape (G : GG) (hR : gR G = rmx 0 0) (hL : gL G = 3) (C : Cx SC G cX11_layOnTape RX11) {Acc : St → Prop}  (v1 : Int32) (s : St) (hr : ∀ v : St, Acc v → RtV SC G cX11_layOnTape v) : JJ SC G Acc (f_SB_layOnTape v1 s) 0 [(0, .ref (ad G 0)), (1, .int v1)] [] s := by
  unfold f_SB_layOnTape
  refine jr_bipush C bp_24 dX11_layOnTape_0 ?_
  refine jr_istore_n C (lv' := [(2, .int 24), (0, .ref (ad G 0)), (1, .int v1)]) (ltL hL rfl) rfl rfl dX11_layOnTape_2 ?_
  refine jr_lv [1, 2, 0] rfl ?_
  refine jr_loopB (pc := 3) (pcx := 39) (f := fun a : (Int32 × St) => f_SB_layOnTape_L3 v1 a.1 a.2) (fun a : (Int32 × St) => [(0, .ref (ad G 0)), (1, .int v1), (2, .int (a.1))]) (fun a : (Int32 × St) => a.2) (24, s) (fun a => t_SB_layOnTape_L3 G hR hL C  v1 a.1 a.2 (fun _ _ h => h) (fun _ _ h => h)) (fun b4 => ?_)
  exact jr_end (fun h => hr (b4.2) h _ _ dX11_layOnTape_39)
set_option maxRecDepth 100000 in
theorem c_SB_layOnTape (l : Launch)  (v1 : Int32) (s : St) {q : St} (h : f_SB_layOnTape v1 s = some q) : CT SC l yX11_layOnTape cX11_layOnTape 3 none 0 0 (fun a => [.ref (a 0), .int v1]) s q (fun _ => none) :=
  ct_V okX_C (by decide) (fun _ => Nat.le_of_ble_eq_true rfl) (fun G hl hR hL C hr => t_SB_layOnTape G hR hL C (Acc := fun v => v = q)  v1 s (fun v hv => by rw [hv]; exact hr) ⟨_, h, rfl⟩)
noncomputable def f_SB_feed (v1 : Int32) (v2 : Int32) (v3 : Int32) (v4 : Int32) (v5 : Int32) (s : St) : Option (Int32 × St) :=
  if ((s.1 0 1) + 20) ≤ 4000 then
  ((f_SB_layOnTape v1 s).bind fun q2 =>
  (f_SB_layOnTape v2 q2).bind fun q4 =>
  (f_SB_layOnTape v3 q4).bind fun q6 =>
  (f_SB_layOnTape v4 q6).bind fun q8 =>
  (f_SB_layOnTape v5 q8).bind fun q10 =>
  some ((q10.1 0 1), q10))
  else
  some ((-1), s)
set_option maxHeartbeats 4000000 in
set_option maxRecDepth 100000 in
theorem t_SB_feed (G : GG) (hR : gR G = rmx 1 22) (hL : gL G = 6) (C : Cx SC G cX11_feed RX11) {Acc : (Int32 × St) → Prop}  (v1 : Int32) (v2 : Int32) (v3 : Int32) (v4 : Int32) (v5 : Int32) (s : St) (hr : ∀ v : (Int32 × St), Acc v → RtI SC G cX11_feed v.1 v.2) : JJ SC G Acc (f_SB_feed v1 v2 v3 v4 v5 s) 0 [(0, .ref (ad G 0)), (1, .int v1), (2, .int v2), (3, .int v3), (4, .int v4), (5, .int v5)] [] s := by
  unfold f_SB_feed
  refine jr_aload_n C 0 rfl rfl dX11_feed_0 ?_
  refine jr_getI C FX_9 1 oC_0.1 oC_0.2 ff_9_1.1 ff_9_1.2 fl_X11_45 dX11_feed_1 ?_
  refine jr_bipush C bp_20 dX11_feed_4 ?_
  refine jr_iadd C dX11_feed_6 ?_
  refine jr_sipush C sp_4000 dX11_feed_7 ?_
  refine jr_icmp_le C (tgt := 15) dX11_feed_10 (by decide) (fun h1 => ?_) (fun h1 => ?_)
  · refine jo_pos h1 ?_
    refine jr_aload_n C 0 rfl rfl dX11_feed_15 ?_
    refine jr_iload_n C 1 rfl rfl dX11_feed_16 ?_
    refine jr_bind (fun q2 e3 => ?_)
    refine jr_callVV C FX_9 km_X11_48 oC_0.1 oC_0.2 (rk hR rfl) (c_SB_layOnTape (gl G) v1 s e3) rfl rfl rfl (Nat.le_of_ble_eq_true rfl) dX11_feed_17 ?_
    refine jr_aload_n C 0 rfl rfl dX11_feed_20 ?_
    refine jr_iload_n C 2 rfl rfl dX11_feed_21 ?_
    refine jr_bind (fun q4 e5 => ?_)
    refine jr_callVV C FX_9 km_X11_48 oC_0.1 oC_0.2 (rk hR rfl) (c_SB_layOnTape (gl G) v2 q2 e5) rfl rfl rfl (Nat.le_of_ble_eq_true rfl) dX11_feed_22 ?_
    refine jr_aload_n C 0 rfl rfl dX11_feed_25 ?_
    refine jr_iload_n C 3 rfl rfl dX11_feed_26 ?_
    refine jr_bind (fun q6 e7 => ?_)
    refine jr_callVV C FX_9 km_X11_48 oC_0.1 oC_0.2 (rk hR rfl) (c_SB_layOnTape (gl G) v3 q4 e7) rfl rfl rfl (Nat.le_of_ble_eq_true rfl) dX11_feed_27 ?_
    refine jr_aload_n C 0 rfl rfl dX11_feed_30 ?_
    refine jr_iload C 4 rfl dX11_feed_31 ?_
    refine jr_bind (fun q8 e9 => ?_)
    refine jr_callVV C FX_9 km_X11_48 oC_0.1 oC_0.2 (rk hR rfl) (c_SB_layOnTape (gl G) v4 q6 e9) rfl rfl rfl (Nat.le_of_ble_eq_true rfl) dX11_feed_33 ?_
    refine jr_aload_n C 0 rfl rfl dX11_feed_36 ?_
    refine jr_iload C 5 rfl dX11_feed_37 ?_
    refine jr_bind (fun q10 e11 => ?_)
    refine jr_callVV C FX_9 km_X11_48 oC_0.1 oC_0.2 (rk hR rfl) (c_SB_layOnTape (gl G) v5 q8 e11) rfl rfl rfl (Nat.le_of_ble_eq_true rfl) dX11_feed_39 ?_
    refine jr_aload_n C 0 rfl rfl dX11_feed_42 ?_
    refine jr_getI C FX_9 1 oC_0.1 oC_0.2 ff_9_1.1 ff_9_1.2 fl_X11_45 dX11_feed_43 ?_
    exact jr_end (fun h => hr ((q10.1 0 1), q10) h _ _ dX11_feed_46)
  refine jo_neg h1 ?_
  refine jr_iconst C ic_m1 dX11_feed_13 ?_
  exact jr_end (fun h => hr ((-1), s) h _ _ dX11_feed_14)
set_option maxRecDepth 100000 in
theorem c_SB_feed (l : Launch)  (v1 : Int32) (v2 : Int32) (v3 : Int32) (v4 : Int32) (v5 : Int32) (s : St) {q : (Int32 × St)} (h : f_SB_feed v1 v2 v3 v4 v5 s = some q) : CT SC l yX11_feed cX11_feed 6 (some .int) 1 22 (fun a => [.ref (a 0), .int v1, .int v2, .int v3, .int v4, .int v5]) s q.2 (fun _ => some (.int q.1)) :=
  ct_I okX_C (by decide) (fun _ => Nat.le_of_ble_eq_true rfl) (fun G hl hR hL C hr => t_SB_feed G hR hL C (Acc := fun v => v = q)  v1 v2 v3 v4 v5 s (fun v hv => by rw [hv]; exact hr) ⟨_, h, rfl⟩)
noncomputable def f_SB_end (v1 : Int32) (s : St) : Option (Int32 × St) :=
  if v1 < 0 then
  some ((-1), s)
  else
  if v1 ≤ (s.1 0 1) then
  (lt (uI s 0 1 v1) fun s3 =>
  some (v1, s3))
  else
  some ((-1), s)
set_option maxHeartbeats 4000000 in
set_option maxRecDepth 100000 in
theorem t_SB_end (G : GG) (hR : gR G = rmx 0 0) (hL : gL G = 2) (C : Cx SC G cX11_end RX11) {Acc : (Int32 × St) → Prop}  (v1 : Int32) (s : St) (hr : ∀ v : (Int32 × St), Acc v → RtI SC G cX11_end v.1 v.2) : JJ SC G Acc (f_SB_end v1 s) 0 [(0, .ref (ad G 0)), (1, .int v1)] [] s := by
  unfold f_SB_end
  refine jr_iload_n C 1 rfl rfl dX11_end_0 ?_
  refine jr_if_lt C (tgt := 12) dX11_end_1 (by decide) (fun h1 => ?_) (fun h1 => ?_)
  · refine jo_pos h1 ?_
    refine jr_iconst C ic_m1 dX11_end_12 ?_
    exact jr_end (fun h => hr ((-1), s) h _ _ dX11_end_13)
  refine jo_neg h1 ?_
  refine jr_iload_n C 1 rfl rfl dX11_end_4 ?_
  refine jr_aload_n C 0 rfl rfl dX11_end_5 ?_
  refine jr_getI C FX_9 1 oC_0.1 oC_0.2 ff_9_1.1 ff_9_1.2 fl_X11_45 dX11_end_6 ?_
  refine jr_icmp_le C (tgt := 14) dX11_end_9 (by decide) (fun h2 => ?_) (fun h2 => ?_)
  · refine jo_pos h2 ?_
    refine jr_aload_n C 0 rfl rfl dX11_end_14 ?_
    refine jr_iload_n C 1 rfl rfl dX11_end_15 ?_
    refine jr_putI C FX_9 1 oC_0.1 oC_0.2 ff_9_1.1 ff_9_1.2 rfl rfl fl_X11_45 dX11_end_16 (jr_ltS fun s3 => ?_)
    refine jr_iload_n C 1 rfl rfl dX11_end_19 ?_
    exact jr_end (fun h => hr (v1, s3) h _ _ dX11_end_20)
  refine jo_neg h2 ?_
  refine jr_iconst C ic_m1 dX11_end_12 ?_
  exact jr_end (fun h => hr ((-1), s) h _ _ dX11_end_13)
set_option maxRecDepth 100000 in
theorem c_SB_end (l : Launch)  (v1 : Int32) (s : St) {q : (Int32 × St)} (h : f_SB_end v1 s = some q) : CT SC l yX11_end cX11_end 2 (some .int) 0 0 (fun a => [.ref (a 0), .int v1]) s q.2 (fun _ => some (.int q.1)) :=
  ct_I okX_C (by decide) (fun _ => Nat.le_of_ble_eq_true rfl) (fun G hl hR hL C hr => t_SB_end G hR hL C (Acc := fun v => v = q)  v1 s (fun v hv => by rw [hv]; exact hr) ⟨_, h, rfl⟩)
noncomputable def f_Pr_clear (P : Nat) (s : St) : Option St :=
  lt (uI s P 3 0) fun s1 =>
  lt (uI s1 P 5 0) fun s2 =>
  some s2
set_option maxHeartbeats 4000000 in
set_option maxRecDepth 100000 in
theorem t_Pr_clear (G : GG) (hR : gR G = rmx 0 0) (hL : gL G = 1) (C : Cx SC G cX8_clear RX8) {Acc : St → Prop} {P : Nat} (hP : isP P)  (s : St) (hr : ∀ v : St, Acc v → RtV SC G cX8_clear v) : JJ SC G Acc (f_Pr_clear P s) 0 [(0, .ref (ad G P))] [] s := by
  unfold f_Pr_clear
  refine jr_aload_n C 0 rfl rfl dX8_clear_0 ?_
  refine jr_iconst C ic_0 dX8_clear_1 ?_
  refine jr_putI C FX_7 3 (oP_0 hP).1 (oP_0 hP).2 ff_7_3.1 ff_7_3.2 rfl rfl fl_X8_25 dX8_clear_2 (jr_ltS fun s1 => ?_)
  refine jr_aload_n C 0 rfl rfl dX8_clear_5 ?_
  refine jr_iconst C ic_0 dX8_clear_6 ?_
  refine jr_putI C FX_7 5 (oP_0 hP).1 (oP_0 hP).2 ff_7_5.1 ff_7_5.2 rfl rfl fl_X8_29 dX8_clear_7 (jr_ltS fun s2 => ?_)
  exact jr_end (fun h => hr s2 h _ _ dX8_clear_10)
set_option maxRecDepth 100000 in
theorem c_Pr_clear (l : Launch) {P : Nat} (hP : isP P)  (s : St) {q : St} (h : f_Pr_clear P s = some q) : CT SC l yX8_clear cX8_clear 1 none 0 0 (fun a => [.ref (a P)]) s q (fun _ => none) :=
  ct_V okX_C (by decide) (fun _ => Nat.le_of_ble_eq_true rfl) (fun G hl hR hL C hr => t_Pr_clear G hR hL C (Acc := fun v => v = q) hP  s (fun v hv => by rw [hv]; exact hr) ⟨_, h, rfl⟩)
noncomputable def f_As_refuse (v1 : Int32) (v2 : Int32) (v3 : Int32) (s : St) : Option St :=
  lt (uI s 2 10 v1) fun s1 =>
  lt (uI s1 2 11 v2) fun s2 =>
  lt (uI s2 2 12 v3) fun s3 =>
  some s3
set_option maxHeartbeats 4000000 in
set_option maxRecDepth 100000 in
theorem t_As_refuse (G : GG) (hR : gR G = rmx 0 0) (hL : gL G = 4) (C : Cx SC G cX0_refuse RX0) {Acc : St → Prop}  (v1 : Int32) (v2 : Int32) (v3 : Int32) (s : St) (hr : ∀ v : St, Acc v → RtV SC G cX0_refuse v) : JJ SC G Acc (f_As_refuse v1 v2 v3 s) 0 [(0, .ref (ad G 2)), (1, .int v1), (2, .int v2), (3, .int v3)] [] s := by
  unfold f_As_refuse
  refine jr_aload_n C 0 rfl rfl dX0_refuse_0 ?_
  refine jr_iload_n C 1 rfl rfl dX0_refuse_1 ?_
  refine jr_putI C FX_0 10 oC_2.1 oC_2.2 ff_0_10.1 ff_0_10.2 rfl rfl fl_X0_61 dX0_refuse_2 (jr_ltS fun s1 => ?_)
  refine jr_aload_n C 0 rfl rfl dX0_refuse_5 ?_
  refine jr_iload_n C 2 rfl rfl dX0_refuse_6 ?_
  refine jr_putI C FX_0 11 oC_2.1 oC_2.2 ff_0_11.1 ff_0_11.2 rfl rfl fl_X0_42 dX0_refuse_7 (jr_ltS fun s2 => ?_)
  refine jr_aload_n C 0 rfl rfl dX0_refuse_10 ?_
  refine jr_iload_n C 3 rfl rfl dX0_refuse_11 ?_
  refine jr_putI C FX_0 12 oC_2.1 oC_2.2 ff_0_12.1 ff_0_12.2 rfl rfl fl_X0_46 dX0_refuse_12 (jr_ltS fun s3 => ?_)
  exact jr_end (fun h => hr s3 h _ _ dX0_refuse_15)
set_option maxRecDepth 100000 in
theorem c_As_refuse (l : Launch)  (v1 : Int32) (v2 : Int32) (v3 : Int32) (s : St) {q : St} (h : f_As_refuse v1 v2 v3 s = some q) : CT SC l yX0_refuse cX0_refuse 4 none 0 0 (fun a => [.ref (a 2), .int v1, .int v2, .int v3]) s q (fun _ => none) :=
  ct_V okX_C (by decide) (fun _ => Nat.le_of_ble_eq_true rfl) (fun G hl hR hL C hr => t_As_refuse G hR hL C (Acc := fun v => v = q)  v1 v2 v3 s (fun v hv => by rw [hv]; exact hr) ⟨_, h, rfl⟩)
noncomputable def f_As_isTooLong_J26_1 (v2 : Int32) (v3 : Int32) (v4 : Int32) (s : St) : Option ((Int32 × Int32) ⊕ ((Int32 × Int32) ⊕ (Int32 × St))) :=
  (f_As_refuse 5 v4 v3 s).bind fun q3 =>
  some (.inr (.inr (1, q3)))
set_option maxHeartbeats 4000000 in
set_option maxRecDepth 100000 in
theorem t_As_isTooLong_J26_1 (G : GG) (hR : gR G = rmx 1 23) (hL : gL G = 5) (C : Cx SC G cX0_isTooLong RX0) {Acc : ((Int32 × Int32) ⊕ ((Int32 × Int32) ⊕ (Int32 × St))) → Prop}  (v2 : Int32) (v3 : Int32) (v4 : Int32) (s : St) (hb1 : ∀ (a3 : Int32) (a4 : Int32), Acc (.inl (a3, a4)) → KK SC G 5 [(0, .ref (ad G 2)), (1, .ref (ad G 1)), (2, .int v2), (3, .int a3), (4, .int a4)] [] s) (hx1 : ∀ (a3 : Int32) (a4 : Int32), Acc (.inr (.inl (a3, a4))) → KK SC G 54 [(0, .ref (ad G 2)), (1, .ref (ad G 1)), (2, .int v2), (3, .int a3), (4, .int a4)] [] s) (hr : ∀ v : (Int32 × St), Acc (.inr (.inr v)) → RtZ SC G cX0_isTooLong v.1 v.2) : JJ SC G Acc (f_As_isTooLong_J26_1 v2 v3 v4 s) 26 [(0, .ref (ad G 2)), (1, .ref (ad G 1)), (2, .int v2), (3, .int v3), (4, .int v4)] [] s := by
  unfold f_As_isTooLong_J26_1
  refine jr_aload_n C 0 rfl rfl dX0_isTooLong_26 ?_
  refine jr_iconst C ic_5 dX0_isTooLong_27 ?_
  refine jr_iload C 4 rfl dX0_isTooLong_28 ?_
  refine jr_iload_n C 3 rfl rfl dX0_isTooLong_30 ?_
  refine jr_bind (fun q3 e4 => ?_)
  refine jr_callVV C FX_0 km_X0_96 oC_2.1 oC_2.2 (rk hR rfl) (c_As_refuse (gl G) 5 v4 v3 s e4) rfl rfl rfl (Nat.le_of_ble_eq_true rfl) dX0_isTooLong_31 ?_
  refine jr_iconst C ic_1 dX0_isTooLong_34 ?_
  exact jr_end (fun h => hr (1, q3) h _ _ _ bN1 dX0_isTooLong_35)
noncomputable def f_As_isTooLong_J48_1 (v2 : Int32) (v3 : Int32) (v4 : Int32) (s : St) : Option ((Int32 × Int32) ⊕ ((Int32 × Int32) ⊕ (Int32 × St))) :=
  some (.inl (v3, (v4 + 1)))
set_option maxHeartbeats 4000000 in
set_option maxRecDepth 100000 in
theorem t_As_isTooLong_J48_1 (G : GG) (hR : gR G = rmx 1 23) (hL : gL G = 5) (C : Cx SC G cX0_isTooLong RX0) {Acc : ((Int32 × Int32) ⊕ ((Int32 × Int32) ⊕ (Int32 × St))) → Prop}  (v2 : Int32) (v3 : Int32) (v4 : Int32) (s : St) (hb1 : ∀ (a3 : Int32) (a4 : Int32), Acc (.inl (a3, a4)) → KK SC G 5 [(0, .ref (ad G 2)), (1, .ref (ad G 1)), (2, .int v2), (3, .int a3), (4, .int a4)] [] s) (hx1 : ∀ (a3 : Int32) (a4 : Int32), Acc (.inr (.inl (a3, a4))) → KK SC G 54 [(0, .ref (ad G 2)), (1, .ref (ad G 1)), (2, .int v2), (3, .int a3), (4, .int a4)] [] s) (hr : ∀ v : (Int32 × St), Acc (.inr (.inr v)) → RtZ SC G cX0_isTooLong v.1 v.2) : JJ SC G Acc (f_As_isTooLong_J48_1 v2 v3 v4 s) 48 [(0, .ref (ad G 2)), (1, .ref (ad G 1)), (2, .int v2), (3, .int v3), (4, .int v4)] [] s := by
  unfold f_As_isTooLong_J48_1
  refine jr_iinc C 4 rfl ii_1 (lv' := [(4, .int (v4 + 1)), (0, .ref (ad G 2)), (1, .ref (ad G 1)), (2, .int v2), (3, .int v3)]) (ltL hL rfl) rfl dX0_isTooLong_48 ?_
  refine jr_goto C (tgt := 5) dX0_isTooLong_51 (by decide) ?_
  refine jr_lv [1, 2, 3, 4, 0] rfl ?_
  exact jr_end (fun h => hb1 v3 (v4 + 1) h)
noncomputable def f_As_isTooLong_L5 (v2 : Int32) (v3 : Int32) (v4 : Int32) (s : St) : Option ((Int32 × Int32) ⊕ ((Int32 × Int32) ⊕ (Int32 × St))) :=
  if v2 ≤ v4 then
  some (.inr (.inl (v3, v4)))
  else
  if 200 < v3 then
  f_As_isTooLong_J26_1 v2 v3 v4 s
  else
  if v4 = 3000 then
  f_As_isTooLong_J26_1 v2 v3 v4 s
  else
  gd v4 4000 <|
  if (s.1 1 (v4 : Int32).toNatClampNeg) = 10 then
  f_As_isTooLong_J48_1 v2 (v3 + 1) v4 s
  else
  f_As_isTooLong_J48_1 v2 v3 v4 s
set_option maxHeartbeats 4000000 in
set_option maxRecDepth 100000 in
theorem t_As_isTooLong_L5 (G : GG) (hR : gR G = rmx 1 23) (hL : gL G = 5) (C : Cx SC G cX0_isTooLong RX0) {Acc : ((Int32 × Int32) ⊕ ((Int32 × Int32) ⊕ (Int32 × St))) → Prop}  (v2 : Int32) (v3 : Int32) (v4 : Int32) (s : St) (hb1 : ∀ (a3 : Int32) (a4 : Int32), Acc (.inl (a3, a4)) → KK SC G 5 [(0, .ref (ad G 2)), (1, .ref (ad G 1)), (2, .int v2), (3, .int a3), (4, .int a4)] [] s) (hx1 : ∀ (a3 : Int32) (a4 : Int32), Acc (.inr (.inl (a3, a4))) → KK SC G 54 [(0, .ref (ad G 2)), (1, .ref (ad G 1)), (2, .int v2), (3, .int a3), (4, .int a4)] [] s) (hr : ∀ v : (Int32 × St), Acc (.inr (.inr v)) → RtZ SC G cX0_isTooLong v.1 v.2) : JJ SC G Acc (f_As_isTooLong_L5 v2 v3 v4 s) 5 [(0, .ref (ad G 2)), (1, .ref (ad G 1)), (2, .int v2), (3, .int v3), (4, .int v4)] [] s := by
  unfold f_As_isTooLong_L5
  refine jr_iload C 4 rfl dX0_isTooLong_5 ?_
  refine jr_iload_n C 2 rfl rfl dX0_isTooLong_7 ?_
  refine jr_icmp_ge C (tgt := 54) dX0_isTooLong_8 (by decide) (fun h1 => ?_) (fun h1 => ?_)
  · refine jo_pos h1 ?_
    exact jr_end (fun h => hx1 v3 v4 h)
  refine jo_neg h1 ?_
  refine jr_iload_n C 3 rfl rfl dX0_isTooLong_11 ?_
  refine jr_sipush C sp_200 dX0_isTooLong_12 ?_
  refine jr_icmp_gt C (tgt := 26) dX0_isTooLong_15 (by decide) (fun h2 => ?_) (fun h2 => ?_)
  · refine jo_pos h2 ?_
    exact t_As_isTooLong_J26_1 G hR hL C  v2 v3 v4 s hb1 hx1 hr
  refine jo_neg h2 ?_
  refine jr_iload C 4 rfl dX0_isTooLong_18 ?_
  refine jr_sipush C sp_3000 dX0_isTooLong_20 ?_
  refine jr_icmp_ne C (tgt := 36) dX0_isTooLong_23 (by decide) (fun h5 => ?_) (fun h5 => ?_)
  · refine jo_neg h5 ?_
    refine jr_aload_n C 1 rfl rfl dX0_isTooLong_36 ?_
    refine jr_iload C 4 rfl dX0_isTooLong_37 ?_
    refine jr_iald C oC_1.1 oC_1.2.1 oC_1.2.2 dX0_isTooLong_39 ?_
    refine jr_bipush C bp_10 dX0_isTooLong_40 ?_
    refine jr_icmp_ne C (tgt := 48) dX0_isTooLong_42 (by decide) (fun h6 => ?_) (fun h6 => ?_)
    · refine jo_neg h6 ?_
      exact t_As_isTooLong_J48_1 G hR hL C  v2 v3 v4 s hb1 hx1 hr
    refine jo_pos h6 ?_
    refine jr_iinc C 3 rfl ii_1 (lv' := [(3, .int (v3 + 1)), (0, .ref (ad G 2)), (1, .ref (ad G 1)), (2, .int v2), (4, .int v4)]) (ltL hL rfl) rfl dX0_isTooLong_45 ?_
    refine jr_lv [1, 2, 3, 0, 4] rfl ?_
    exact t_As_isTooLong_J48_1 G hR hL C  v2 (v3 + 1) v4 s hb1 hx1 hr
  refine jo_pos h5 ?_
  exact t_As_isTooLong_J26_1 G hR hL C  v2 v3 v4 s hb1 hx1 hr
noncomputable def f_As_isTooLong (v2 : Int32) (s : St) : Option (Int32 × St) :=
  (wh (fun a : (Int32 × Int32) => f_As_isTooLong_L5 v2 a.1 a.2 s) (1, 0)).bind (Sum.elim (fun b7 =>
  some (0, s)) some)
set_option maxHeartbeats 4000000 in
set_option maxRecDepth 100000 in
theorem t_As_isTooLong (G : GG) (hR : gR G = rmx 1 23) (hL : gL G = 5) (C : Cx SC G cX0_isTooLong RX0) {Acc : (Int32 × St) → Prop}  (v2 : Int32) (s : St) (hr : ∀ v : (Int32 × St), Acc v → RtZ SC G cX0_isTooLong v.1 v.2) : JJ SC G Acc (f_As_isTooLong v2 s) 0 [(0, .ref (ad G 2)), (1, .ref (ad G 1)), (2, .int v2)] [] s := by
  unfold f_As_isTooLong
  refine jr_iconst C ic_1 dX0_isTooLong_0 ?_
  refine jr_istore_n C (lv' := [(3, .int 1), (0, .ref (ad G 2)), (1, .ref (ad G 1)), (2, .int v2)]) (ltL hL rfl) rfl rfl dX0_isTooLong_1 ?_
  refine jr_iconst C ic_0 dX0_isTooLong_2 ?_
  refine jr_istore C (lv' := [(4, .int 0), (3, .int 1), (0, .ref (ad G 2)), (1, .ref (ad G 1)), (2, .int v2)]) (ltL hL rfl) rfl dX0_isTooLong_3 ?_
  refine jr_lv [2, 3, 4, 1, 0] rfl ?_
  refine jr_loopE (pc := 5) (pcx := 54) (f := fun a : (Int32 × Int32) => f_As_isTooLong_L5 v2 a.1 a.2 s) (fun a : (Int32 × Int32) => [(0, .ref (ad G 2)), (1, .ref (ad G 1)), (2, .int v2), (3, .int (a.1)), (4, .int (a.2))]) (fun a : (Int32 × Int32) => s) (1, 0) (fun a => t_As_isTooLong_L5 G hR hL C  v2 a.1 a.2 s (fun _ _ h => h) (fun _ _ h => h) hr) (fun b7 => ?_)
  refine jr_iconst C ic_0 dX0_isTooLong_54 ?_
  exact jr_end (fun h => hr (0, s) h _ _ _ bN0 dX0_isTooLong_55)
set_option maxRecDepth 100000 in
theorem c_As_isTooLong (l : Launch)  (v2 : Int32) (s : St) {q : (Int32 × St)} (h : f_As_isTooLong v2 s = some q) : CT SC l yX0_isTooLong cX0_isTooLong 5 (some .boolean) 1 23 (fun a => [.ref (a 2), .ref (a 1), .int v2]) s q.2 (fun _ => some (.int q.1)) :=
  ct_Z okX_C (by decide) (fun _ => Nat.le_of_ble_eq_true rfl) (fun G hl hR hL C hr => t_As_isTooLong G hR hL C (Acc := fun v => v = q)  v2 s (fun v hv => by rw [hv]; exact hr) ⟨_, h, rfl⟩)
noncomputable def f_As_endOfLine_L2 (v2 : Int32) (v3 : Int32) (s : St) : Option (Int32 ⊕ Int32) :=
  if v2 ≤ v3 then
  some (.inr v3)
  else
  gd v3 4000 <|
  if (s.1 1 (v3 : Int32).toNatClampNeg) = 10 then
  some (.inr v3)
  else
  some (.inl (v3 + 1))
set_option maxHeartbeats 4000000 in
set_option maxRecDepth 100000 in
theorem t_As_endOfLine_L2 (G : GG) (hR : gR G = rmx 0 0) (hL : gL G = 4) (C : Cx SC G cX0_endOfLine RX0) {Acc : (Int32 ⊕ Int32) → Prop}  (v2 : Int32) (v3 : Int32) (s : St) (hb1 : ∀ (a3 : Int32), Acc (.inl a3) → KK SC G 2 [(0, .ref (ad G 1)), (2, .int v2), (3, .int a3)] [] s) (hx1 : ∀ (a3 : Int32), Acc (.inr a3) → KK SC G 21 [(0, .ref (ad G 1)), (2, .int v2), (3, .int a3)] [] s) : JJ SC G Acc (f_As_endOfLine_L2 v2 v3 s) 2 [(0, .ref (ad G 1)), (2, .int v2), (3, .int v3)] [] s := by
  unfold f_As_endOfLine_L2
  refine jr_iload_n C 2 rfl rfl dX0_endOfLine_2 ?_
  refine jr_iload_n C 1 rfl rfl dX0_endOfLine_3 ?_
  refine jr_icmp_ge C (tgt := 21) dX0_endOfLine_4 (by decide) (fun h1 => ?_) (fun h1 => ?_)
  · refine jo_pos h1 ?_
    exact jr_end (fun h => hx1 v3 h)
  refine jo_neg h1 ?_
  refine jr_aload_n C 0 rfl rfl dX0_endOfLine_7 ?_
  refine jr_iload_n C 2 rfl rfl dX0_endOfLine_8 ?_
  refine jr_iald C oC_1.1 oC_1.2.1 oC_1.2.2 dX0_endOfLine_9 ?_
  refine jr_bipush C bp_10 dX0_endOfLine_10 ?_
  refine jr_icmp_eq C (tgt := 21) dX0_endOfLine_12 (by decide) (fun h2 => ?_) (fun h2 => ?_)
  · refine jo_pos h2 ?_
    exact jr_end (fun h => hx1 v3 h)
  refine jo_neg h2 ?_
  refine jr_iinc C 2 rfl ii_1 (lv' := [(3, .int (v3 + 1)), (0, .ref (ad G 1)), (2, .int v2)]) (ltL hL rfl) rfl dX0_endOfLine_15 ?_
  refine jr_goto C (tgt := 2) dX0_endOfLine_18 (by decide) ?_
  refine jr_lv [1, 2, 0] rfl ?_
  exact jr_end (fun h => hb1 (v3 + 1) h)
noncomputable def f_As_endOfLine (v1 : Int32) (v2 : Int32) (s : St) : Option Int32 :=
  (wh (fun a : Int32 => f_As_endOfLine_L2 v2 a s) v1).bind (fun b3 =>
  some b3)
set_option maxHeartbeats 4000000 in
set_option maxRecDepth 100000 in
theorem t_As_endOfLine (G : GG) (hR : gR G = rmx 0 0) (hL : gL G = 4) (C : Cx SC G cX0_endOfLine RX0) {Acc : Int32 → Prop}  (v1 : Int32) (v2 : Int32) (s : St) (hr : ∀ v : Int32, Acc v → RtI SC G cX0_endOfLine v s) : JJ SC G Acc (f_As_endOfLine v1 v2 s) 0 [(0, .ref (ad G 1)), (1, .int v1), (2, .int v2)] [] s := by
  unfold f_As_endOfLine
  refine jr_iload_n C 1 rfl rfl dX0_endOfLine_0 ?_
  refine jr_istore_n C (lv' := [(3, .int v1), (0, .ref (ad G 1)), (1, .int v1), (2, .int v2)]) (ltL hL rfl) rfl rfl dX0_endOfLine_1 ?_
  refine jr_lv [1, 3, 0] rfl ?_
  refine jr_loopB (pc := 2) (pcx := 21) (f := fun a : Int32 => f_As_endOfLine_L2 v2 a s) (fun a : Int32 => [(0, .ref (ad G 1)), (2, .int v2), (3, .int a)]) (fun a : Int32 => s) v1 (fun a => t_As_endOfLine_L2 G hR hL C  v2 a s (fun _ h => h) (fun _ h => h)) (fun b3 => ?_)
  refine jr_iload_n C 2 rfl rfl dX0_endOfLine_21 ?_
  exact jr_end (fun h => hr b3 h _ _ dX0_endOfLine_22)
set_option maxRecDepth 100000 in
theorem c_As_endOfLine (l : Launch)  (v1 : Int32) (v2 : Int32) (s : St) {q : Int32} (h : f_As_endOfLine v1 v2 s = some q) : CT SC l yX0_endOfLine cX0_endOfLine 4 (some .int) 0 0 (fun a => [.ref (a 1), .int v1, .int v2]) s s (fun _ => some (.int q)) :=
  ct_I okX_C (by decide) (fun _ => Nat.le_of_ble_eq_true rfl) (fun G hl hR hL C hr => t_As_endOfLine G hR hL C (Acc := fun v => v = q)  v1 v2 s (fun v hv => by rw [hv]; exact hr) ⟨_, h, rfl⟩)
noncomputable def f_Sc_openLine (v2 : Int32) (v3 : Int32) (s : St) : Option St :=
  lt (uR s 3 1) fun s1 =>
  lt (uI s1 3 1 v2) fun s2 =>
  lt (uI s2 3 2 v3) fun s3 =>
  some s3
set_option maxHeartbeats 4000000 in
set_option maxRecDepth 100000 in
theorem t_Sc_openLine (G : GG) (hR : gR G = rmx 0 0) (hL : gL G = 4) (C : Cx SC G cX10_openLine RX10) {Acc : St → Prop}  (v2 : Int32) (v3 : Int32) (s : St) (hr : ∀ v : St, Acc v → RtV SC G cX10_openLine v) : JJ SC G Acc (f_Sc_openLine v2 v3 s) 0 [(0, .ref (ad G 3)), (1, .ref (ad G 1)), (2, .int v2), (3, .int v3)] [] s := by
  unfold f_Sc_openLine
  refine jr_aload_n C 0 rfl rfl dX10_openLine_0 ?_
  refine jr_aload_n C 1 rfl rfl dX10_openLine_1 ?_
  refine jr_putR (cn := "") C FX_8 0 oC_3.1 oC_3.2 ff_8_0.1 ff_8_0.2 rfl (Or.inr rfl) (by decide) rfl hu_3 fl_X10_9 dX10_openLine_2 (jr_ltS fun s1 => ?_)
  refine jr_aload_n C 0 rfl rfl dX10_openLine_5 ?_
  refine jr_iload_n C 2 rfl rfl dX10_openLine_6 ?_
  refine jr_putI C FX_8 1 oC_3.1 oC_3.2 ff_8_1.1 ff_8_1.2 rfl rfl fl_X10_15 dX10_openLine_7 (jr_ltS fun s2 => ?_)
  refine jr_aload_n C 0 rfl rfl dX10_openLine_10 ?_
  refine jr_iload_n C 3 rfl rfl dX10_openLine_11 ?_
  refine jr_putI C FX_8 2 oC_3.1 oC_3.2 ff_8_2.1 ff_8_2.2 rfl rfl fl_X10_19 dX10_openLine_12 (jr_ltS fun s3 => ?_)
  exact jr_end (fun h => hr s3 h _ _ dX10_openLine_15)
set_option maxRecDepth 100000 in
theorem c_Sc_openLine (l : Launch)  (v2 : Int32) (v3 : Int32) (s : St) {q : St} (h : f_Sc_openLine v2 v3 s = some q) : CT SC l yX10_openLine cX10_openLine 4 none 0 0 (fun a => [.ref (a 3), .ref (a 1), .int v2, .int v3]) s q (fun _ => none) :=
  ct_V okX_C (by decide) (fun _ => Nat.le_of_ble_eq_true rfl) (fun G hl hR hL C hr => t_Sc_openLine G hR hL C (Acc := fun v => v = q)  v2 v3 s (fun v hv => by rw [hv]; exact hr) ⟨_, h, rfl⟩)
noncomputable def f_Sc_byteAt (v1 : Int32) (s : St) : Option Int32 :=
  if (s.1 3 2) ≤ v1 then
  some (-1)
  else
  if s.2.2 3 = 1 then
  (gd v1 4000 <|
  some (s.1 1 (v1 : Int32).toNatClampNeg))
  else none
set_option maxHeartbeats 4000000 in
set_option maxRecDepth 100000 in
theorem t_Sc_byteAt (G : GG) (hR : gR G = rmx 0 0) (hL : gL G = 2) (C : Cx SC G cX10_byteAt RX10) {Acc : Int32 → Prop}  (v1 : Int32) (s : St) (hr : ∀ v : Int32, Acc v → RtI SC G cX10_byteAt v s) : JJ SC G Acc (f_Sc_byteAt v1 s) 0 [(0, .ref (ad G 3)), (1, .int v1)] [] s := by
  unfold f_Sc_byteAt
  refine jr_iload_n C 1 rfl rfl dX10_byteAt_0 ?_
  refine jr_aload_n C 0 rfl rfl dX10_byteAt_1 ?_
  refine jr_getI C FX_8 2 oC_3.1 oC_3.2 ff_8_2.1 ff_8_2.2 fl_X10_19 dX10_byteAt_2 ?_
  refine jr_icmp_ge C (tgt := 17) dX10_byteAt_5 (by decide) (fun h1 => ?_) (fun h1 => ?_)
  · refine jo_pos h1 ?_
    refine jr_iconst C ic_m1 dX10_byteAt_17 ?_
    exact jr_end (fun h => hr (-1) h _ _ dX10_byteAt_18)
  refine jo_neg h1 ?_
  refine jr_aload_n C 0 rfl rfl dX10_byteAt_8 ?_
  refine jr_getT C FX_8 0 oC_3.1 oC_3.2 ff_8_0.1 ff_8_0.2 rfl fl_X10_9 dX10_byteAt_9 ?_
  refine jr_iload_n C 1 rfl rfl dX10_byteAt_12 ?_
  refine jr_iald C oC_1.1 oC_1.2.1 oC_1.2.2 dX10_byteAt_13 ?_
  refine jr_goto C (tgt := 18) dX10_byteAt_14 (by decide) ?_
  exact jr_end (fun h => hr (s.1 1 (v1 : Int32).toNatClampNeg) h _ _ dX10_byteAt_18)
set_option maxRecDepth 100000 in
theorem c_Sc_byteAt (l : Launch)  (v1 : Int32) (s : St) {q : Int32} (h : f_Sc_byteAt v1 s = some q) : CT SC l yX10_byteAt cX10_byteAt 2 (some .int) 0 0 (fun a => [.ref (a 3), .int v1]) s s (fun _ => some (.int q)) :=
  ct_I okX_C (by decide) (fun _ => Nat.le_of_ble_eq_true rfl) (fun G hl hR hL C hr => t_Sc_byteAt G hR hL C (Acc := fun v => v = q)  v1 s (fun v hv => by rw [hv]; exact hr) ⟨_, h, rfl⟩)
noncomputable def f_Sc_isLetter (v0 : Int32) : Int32 :=
  if v0 < 97 then
  0
  else
  if 122 < v0 then
  0
  else
  1
set_option maxHeartbeats 4000000 in
set_option maxRecDepth 100000 in
theorem t_Sc_isLetter (G : GG) (hR : gR G = rmx 0 0) (hL : gL G = 1) (C : Cx SC G cX10_isLetter RX10) {Acc : Int32 → Prop}  (v0 : Int32) (s : St) (hr : ∀ v : Int32, Acc v → RtZ SC G cX10_isLetter v s) : JJ SC G Acc (some (f_Sc_isLetter v0)) 0 [(0, .int v0)] [] s := by
  unfold f_Sc_isLetter
  refine jr_iload_n C 0 rfl rfl dX10_isLetter_0 ?_
  refine jr_bipush C bp_97 dX10_isLetter_1 ?_
  refine jr_icmp_lt C (tgt := 16) dX10_isLetter_3 (by decide) (fun h1 => ?_) (fun h1 => ?_)
  · refine jo_posP h1 ?_
    refine jr_iconst C ic_0 dX10_isLetter_16 ?_
    exact jr_end (fun h => hr 0 h _ _ _ bN0 dX10_isLetter_17)
  refine jo_negP h1 ?_
  refine jr_iload_n C 0 rfl rfl dX10_isLetter_6 ?_
  refine jr_bipush C bp_122 dX10_isLetter_7 ?_
  refine jr_icmp_gt C (tgt := 16) dX10_isLetter_9 (by decide) (fun h2 => ?_) (fun h2 => ?_)
  · refine jo_posP h2 ?_
    refine jr_iconst C ic_0 dX10_isLetter_16 ?_
    exact jr_end (fun h => hr 0 h _ _ _ bN0 dX10_isLetter_17)
  refine jo_negP h2 ?_
  refine jr_iconst C ic_1 dX10_isLetter_12 ?_
  refine jr_goto C (tgt := 17) dX10_isLetter_13 (by decide) ?_
  exact jr_end (fun h => hr 1 h _ _ _ bN1 dX10_isLetter_17)
set_option maxRecDepth 100000 in
theorem c_Sc_isLetter (l : Launch)  (v0 : Int32) (s : St) : CT SC l yX10_isLetter cX10_isLetter 1 (some .boolean) 0 0 (fun a => [.int v0]) s s (fun _ => some (.int (f_Sc_isLetter v0))) :=
  ct_Z okX_C (by decide) (fun _ => Nat.le_of_ble_eq_true rfl) (fun G hl hR hL C hr => t_Sc_isLetter G hR hL C (Acc := fun v => v = (f_Sc_isLetter v0))  v0 s (fun v hv => by rw [hv]; exact hr) ⟨_, rfl, rfl⟩)
noncomputable def f_Sc_isDigit (v0 : Int32) : Int32 :=
  if v0 < 48 then
  0
  else
  if 57 < v0 then
  0
  else
  1
set_option maxHeartbeats 4000000 in
set_option maxRecDepth 100000 in
theorem t_Sc_isDigit (G : GG) (hR : gR G = rmx 0 0) (hL : gL G = 1) (C : Cx SC G cX10_isDigit RX10) {Acc : Int32 → Prop}  (v0 : Int32) (s : St) (hr : ∀ v : Int32, Acc v → RtZ SC G cX10_isDigit v s) : JJ SC G Acc (some (f_Sc_isDigit v0)) 0 [(0, .int v0)] [] s := by
  unfold f_Sc_isDigit
  refine jr_iload_n C 0 rfl rfl dX10_isDigit_0 ?_
  refine jr_bipush C bp_48 dX10_isDigit_1 ?_
  refine jr_icmp_lt C (tgt := 16) dX10_isDigit_3 (by decide) (fun h1 => ?_) (fun h1 => ?_)
  · refine jo_posP h1 ?_
    refine jr_iconst C ic_0 dX10_isDigit_16 ?_
    exact jr_end (fun h => hr 0 h _ _ _ bN0 dX10_isDigit_17)
  refine jo_negP h1 ?_
  refine jr_iload_n C 0 rfl rfl dX10_isDigit_6 ?_
  refine jr_bipush C bp_57 dX10_isDigit_7 ?_
  refine jr_icmp_gt C (tgt := 16) dX10_isDigit_9 (by decide) (fun h2 => ?_) (fun h2 => ?_)
  · refine jo_posP h2 ?_
    refine jr_iconst C ic_0 dX10_isDigit_16 ?_
    exact jr_end (fun h => hr 0 h _ _ _ bN0 dX10_isDigit_17)
  refine jo_negP h2 ?_
  refine jr_iconst C ic_1 dX10_isDigit_12 ?_
  refine jr_goto C (tgt := 17) dX10_isDigit_13 (by decide) ?_
  exact jr_end (fun h => hr 1 h _ _ _ bN1 dX10_isDigit_17)
set_option maxRecDepth 100000 in
theorem c_Sc_isDigit (l : Launch)  (v0 : Int32) (s : St) : CT SC l yX10_isDigit cX10_isDigit 1 (some .boolean) 0 0 (fun a => [.int v0]) s s (fun _ => some (.int (f_Sc_isDigit v0))) :=
  ct_Z okX_C (by decide) (fun _ => Nat.le_of_ble_eq_true rfl) (fun G hl hR hL C hr => t_Sc_isDigit G hR hL C (Acc := fun v => v = (f_Sc_isDigit v0))  v0 s (fun v hv => by rw [hv]; exact hr) ⟨_, rfl, rfl⟩)
noncomputable def f_Sc_readWord_J46_1  (s : St) : Option (St ⊕ St) :=
  if s.2.2 3 = 1 then
  (gd (s.1 3 1) 4000 <|
  lt (uJ s 3 5 (((s.2.1 3 5) <<< ((8 : Int32).toInt64 &&& 63)) ||| ((s.1 1 ((s.1 3 1) : Int32).toNatClampNeg) : Int32).toInt64)) fun s6 =>
  lt (uI s6 3 1 ((s6.1 3 1) + 1)) fun s7 =>
  some (.inl s7))
  else none
set_option maxHeartbeats 4000000 in
set_option maxRecDepth 100000 in
theorem t_Sc_readWord_J46_1 (G : GG) (hR : gR G = rmx 1 20) (hL : gL G = 1) (C : Cx SC G cX10_readWord RX10) {Acc : (St ⊕ St) → Prop}   (s : St) (hb1 : ∀  (t : St), Acc (.inl t) → KK SC G 5 [(0, .ref (ad G 3))] [] t) (hx1 : ∀  (t : St), Acc (.inr t) → KK SC G 81 [(0, .ref (ad G 3))] [] t) : JJ SC G Acc (f_Sc_readWord_J46_1 s) 46 [(0, .ref (ad G 3))] [] s := by
  unfold f_Sc_readWord_J46_1
  refine jr_aload_n C 0 rfl rfl dX10_readWord_46 ?_
  refine jr_aload_n C 0 rfl rfl dX10_readWord_47 ?_
  refine jr_getJ C FX_8 5 oC_3.1 oC_3.2 ff_8_5.1 ff_8_5.2 fl_X10_46 dX10_readWord_48 ?_
  refine jr_bipush C bp_8 dX10_readWord_51 ?_
  refine jr_lshl C dX10_readWord_53 ?_
  refine jr_aload_n C 0 rfl rfl dX10_readWord_54 ?_
  refine jr_getT C FX_8 0 oC_3.1 oC_3.2 ff_8_0.1 ff_8_0.2 rfl fl_X10_9 dX10_readWord_55 ?_
  refine jr_aload_n C 0 rfl rfl dX10_readWord_58 ?_
  refine jr_getI C FX_8 1 oC_3.1 oC_3.2 ff_8_1.1 ff_8_1.2 fl_X10_15 dX10_readWord_59 ?_
  refine jr_iald C oC_1.1 oC_1.2.1 oC_1.2.2 dX10_readWord_62 ?_
  refine jr_i2l C dX10_readWord_63 ?_
  refine jr_lor C dX10_readWord_64 ?_
  refine jr_putJ C FX_8 5 oC_3.1 oC_3.2 ff_8_5.1 ff_8_5.2 rfl rfl fl_X10_46 dX10_readWord_65 (jr_ltS fun s6 => ?_)
  refine jr_aload_n C 0 rfl rfl dX10_readWord_68 ?_
  refine jr_dup C rfl dX10_readWord_69 ?_
  refine jr_getI C FX_8 1 oC_3.1 oC_3.2 ff_8_1.1 ff_8_1.2 fl_X10_15 dX10_readWord_70 ?_
  refine jr_iconst C ic_1 dX10_readWord_73 ?_
  refine jr_iadd C dX10_readWord_74 ?_
  refine jr_putI C FX_8 1 oC_3.1 oC_3.2 ff_8_1.1 ff_8_1.2 rfl rfl fl_X10_15 dX10_readWord_75 (jr_ltS fun s7 => ?_)
  refine jr_goto C (tgt := 5) dX10_readWord_78 (by decide) ?_
  exact jr_end (fun h => hb1 s7 h)
noncomputable def f_Sc_readWord_L5  (s : St) : Option (St ⊕ St) :=
  if (s.1 3 2) ≤ (s.1 3 1) then
  some (.inr s)
  else
  if s.2.2 3 = 1 then
  (gd (s.1 3 1) 4000 <|
  if (f_Sc_isLetter (s.1 1 ((s.1 3 1) : Int32).toNatClampNeg)) = 0 then
  (if s.2.2 3 = 1 then
  (gd (s.1 3 1) 4000 <|
  if (f_Sc_isDigit (s.1 1 ((s.1 3 1) : Int32).toNatClampNeg)) = 0 then
  some (.inr s)
  else
  f_Sc_readWord_J46_1 s)
  else none)
  else
  f_Sc_readWord_J46_1 s)
  else none
set_option maxHeartbeats 4000000 in
set_option maxRecDepth 100000 in
theorem t_Sc_readWord_L5 (G : GG) (hR : gR G = rmx 1 20) (hL : gL G = 1) (C : Cx SC G cX10_readWord RX10) {Acc : (St ⊕ St) → Prop}   (s : St) (hb1 : ∀  (t : St), Acc (.inl t) → KK SC G 5 [(0, .ref (ad G 3))] [] t) (hx1 : ∀  (t : St), Acc (.inr t) → KK SC G 81 [(0, .ref (ad G 3))] [] t) : JJ SC G Acc (f_Sc_readWord_L5 s) 5 [(0, .ref (ad G 3))] [] s := by
  unfold f_Sc_readWord_L5
  refine jr_aload_n C 0 rfl rfl dX10_readWord_5 ?_
  refine jr_getI C FX_8 1 oC_3.1 oC_3.2 ff_8_1.1 ff_8_1.2 fl_X10_15 dX10_readWord_6 ?_
  refine jr_aload_n C 0 rfl rfl dX10_readWord_9 ?_
  refine jr_getI C FX_8 2 oC_3.1 oC_3.2 ff_8_2.1 ff_8_2.2 fl_X10_19 dX10_readWord_10 ?_
  refine jr_icmp_ge C (tgt := 81) dX10_readWord_13 (by decide) (fun h2 => ?_) (fun h2 => ?_)
  · refine jo_pos h2 ?_
    exact jr_end (fun h => hx1 s h)
  refine jo_neg h2 ?_
  refine jr_aload_n C 0 rfl rfl dX10_readWord_16 ?_
  refine jr_getT C FX_8 0 oC_3.1 oC_3.2 ff_8_0.1 ff_8_0.2 rfl fl_X10_9 dX10_readWord_17 ?_
  refine jr_aload_n C 0 rfl rfl dX10_readWord_20 ?_
  refine jr_getI C FX_8 1 oC_3.1 oC_3.2 ff_8_1.1 ff_8_1.2 fl_X10_15 dX10_readWord_21 ?_
  refine jr_iald C oC_1.1 oC_1.2.1 oC_1.2.2 dX10_readWord_24 ?_
  refine jr_callSI C km_X10_32 (rk hR rfl) (c_Sc_isLetter (gl G) (s.1 1 ((s.1 3 1) : Int32).toNatClampNeg) s) rfl rfl rfl (Nat.le_of_ble_eq_true rfl) dX10_readWord_25 ?_
  refine jr_if_ne C (tgt := 46) dX10_readWord_28 (by decide) (fun h4 => ?_) (fun h4 => ?_)
  · refine jo_neg h4 ?_
    exact t_Sc_readWord_J46_1 G hR hL C   s hb1 hx1
  refine jo_pos h4 ?_
  refine jr_aload_n C 0 rfl rfl dX10_readWord_31 ?_
  refine jr_getT C FX_8 0 oC_3.1 oC_3.2 ff_8_0.1 ff_8_0.2 rfl fl_X10_9 dX10_readWord_32 ?_
  refine jr_aload_n C 0 rfl rfl dX10_readWord_35 ?_
  refine jr_getI C FX_8 1 oC_3.1 oC_3.2 ff_8_1.1 ff_8_1.2 fl_X10_15 dX10_readWord_36 ?_
  refine jr_iald C oC_1.1 oC_1.2.1 oC_1.2.2 dX10_readWord_39 ?_
  refine jr_callSI C km_X10_39 (rk hR rfl) (c_Sc_isDigit (gl G) (s.1 1 ((s.1 3 1) : Int32).toNatClampNeg) s) rfl rfl rfl (Nat.le_of_ble_eq_true rfl) dX10_readWord_40 ?_
  refine jr_if_eq C (tgt := 81) dX10_readWord_43 (by decide) (fun h9 => ?_) (fun h9 => ?_)
  · refine jo_pos h9 ?_
    exact jr_end (fun h => hx1 s h)
  refine jo_neg h9 ?_
  exact t_Sc_readWord_J46_1 G hR hL C   s hb1 hx1
noncomputable def f_Sc_readWord_J101 (w0 : Int32) (s : St) : Option St :=
  lt (uI s 3 3 w0) fun s12 =>
  some s12
set_option maxHeartbeats 4000000 in
set_option maxRecDepth 100000 in
theorem t_Sc_readWord_J101 (G : GG) (hR : gR G = rmx 1 20) (hL : gL G = 1) (C : Cx SC G cX10_readWord RX10) {Acc : St → Prop}  (w0 : Int32) (s : St) (hr : ∀ v : St, Acc v → RtV SC G cX10_readWord v) : JJ SC G Acc (f_Sc_readWord_J101 w0 s) 101 [] [.int w0, .ref (ad G 3)] s := by
  unfold f_Sc_readWord_J101
  refine jr_putI C FX_8 3 oC_3.1 oC_3.2 ff_8_3.1 ff_8_3.2 rfl rfl fl_X10_29 dX10_readWord_101 (jr_ltS fun s12 => ?_)
  exact jr_end (fun h => hr s12 h _ _ dX10_readWord_104)
noncomputable def f_Sc_readWord  (s : St) : Option St :=
  lt (uJ s 3 5 0) fun s1 =>
  (wh (fun a : St => f_Sc_readWord_L5  a) s1).bind (fun b10 =>
  if ((b10.1 3 1) - (b10.1 3 4)) ≤ 8 then
  f_Sc_readWord_J101 1 b10
  else
  f_Sc_readWord_J101 5 b10)
set_option maxHeartbeats 4000000 in
set_option maxRecDepth 100000 in
theorem t_Sc_readWord (G : GG) (hR : gR G = rmx 1 20) (hL : gL G = 1) (C : Cx SC G cX10_readWord RX10) {Acc : St → Prop}   (s : St) (hr : ∀ v : St, Acc v → RtV SC G cX10_readWord v) : JJ SC G Acc (f_Sc_readWord s) 0 [(0, .ref (ad G 3))] [] s := by
  unfold f_Sc_readWord
  refine jr_aload_n C 0 rfl rfl dX10_readWord_0 ?_
  refine jr_lconst C (v := 0) (by decide) dX10_readWord_1 ?_
  refine jr_putJ C FX_8 5 oC_3.1 oC_3.2 ff_8_5.1 ff_8_5.2 rfl rfl fl_X10_46 dX10_readWord_2 (jr_ltS fun s1 => ?_)
  refine jr_loopB (pc := 5) (pcx := 81) (f := fun a : St => f_Sc_readWord_L5  a) (fun a : St => [(0, .ref (ad G 3))]) (fun a : St => a) s1 (fun a => t_Sc_readWord_L5 G hR hL C   a (fun _ h => h) (fun _ h => h)) (fun b10 => ?_)
  refine jr_aload_n C 0 rfl rfl dX10_readWord_81 ?_
  refine jr_aload_n C 0 rfl rfl dX10_readWord_82 ?_
  refine jr_getI C FX_8 1 oC_3.1 oC_3.2 ff_8_1.1 ff_8_1.2 fl_X10_15 dX10_readWord_83 ?_
  refine jr_aload_n C 0 rfl rfl dX10_readWord_86 ?_
  refine jr_getI C FX_8 4 oC_3.1 oC_3.2 ff_8_4.1 ff_8_4.2 fl_X10_22 dX10_readWord_87 ?_
  refine jr_isub C dX10_readWord_90 ?_
  refine jr_bipush C bp_8 dX10_readWord_91 ?_
  refine jr_icmp_le C (tgt := 100) dX10_readWord_93 (by decide) (fun h11 => ?_) (fun h11 => ?_)
  · refine jo_pos h11 ?_
    refine jr_iconst C ic_1 dX10_readWord_100 ?_
    refine jr_lv [] rfl ?_
    exact t_Sc_readWord_J101 G hR hL C  1 b10 hr
  refine jo_neg h11 ?_
  refine jr_iconst C ic_5 dX10_readWord_96 ?_
  refine jr_goto C (tgt := 101) dX10_readWord_97 (by decide) ?_
  refine jr_lv [] rfl ?_
  exact t_Sc_readWord_J101 G hR hL C  5 b10 hr
set_option maxRecDepth 100000 in
theorem c_Sc_readWord (l : Launch)   (s : St) {q : St} (h : f_Sc_readWord s = some q) : CT SC l yX10_readWord cX10_readWord 1 none 1 20 (fun a => [.ref (a 3)]) s q (fun _ => none) :=
  ct_V okX_C (by decide) (fun _ => Nat.le_of_ble_eq_true rfl) (fun G hl hR hL C hr => t_Sc_readWord G hR hL C (Acc := fun v => v = q)   s (fun v hv => by rw [hv]; exact hr) ⟨_, h, rfl⟩)
noncomputable def f_Sc_hexDigit_J17 (v0 : Int32) : Int32 :=
  if v0 < 97 then
  (-1)
  else
  if 102 < v0 then
  (-1)
  else
  ((v0 - 97) + 10)
set_option maxHeartbeats 4000000 in
set_option maxRecDepth 100000 in
theorem t_Sc_hexDigit_J17 (G : GG) (hR : gR G = rmx 0 0) (hL : gL G = 1) (C : Cx SC G cX10_hexDigit RX10) {Acc : Int32 → Prop}  (v0 : Int32) (s : St) (hr : ∀ v : Int32, Acc v → RtI SC G cX10_hexDigit v s) : JJ SC G Acc (some (f_Sc_hexDigit_J17 v0)) 17 [(0, .int v0)] [] s := by
  unfold f_Sc_hexDigit_J17
  refine jr_iload_n C 0 rfl rfl dX10_hexDigit_17 ?_
  refine jr_bipush C bp_97 dX10_hexDigit_18 ?_
  refine jr_icmp_lt C (tgt := 39) dX10_hexDigit_20 (by decide) (fun h2 => ?_) (fun h2 => ?_)
  · refine jo_posP h2 ?_
    refine jr_iconst C ic_m1 dX10_hexDigit_39 ?_
    exact jr_end (fun h => hr (-1) h _ _ dX10_hexDigit_40)
  refine jo_negP h2 ?_
  refine jr_iload_n C 0 rfl rfl dX10_hexDigit_23 ?_
  refine jr_bipush C bp_102 dX10_hexDigit_24 ?_
  refine jr_icmp_gt C (tgt := 39) dX10_hexDigit_26 (by decide) (fun h3 => ?_) (fun h3 => ?_)
  · refine jo_posP h3 ?_
    refine jr_iconst C ic_m1 dX10_hexDigit_39 ?_
    exact jr_end (fun h => hr (-1) h _ _ dX10_hexDigit_40)
  refine jo_negP h3 ?_
  refine jr_iload_n C 0 rfl rfl dX10_hexDigit_29 ?_
  refine jr_bipush C bp_97 dX10_hexDigit_30 ?_
  refine jr_isub C dX10_hexDigit_32 ?_
  refine jr_bipush C bp_10 dX10_hexDigit_33 ?_
  refine jr_iadd C dX10_hexDigit_35 ?_
  refine jr_goto C (tgt := 40) dX10_hexDigit_36 (by decide) ?_
  exact jr_end (fun h => hr ((v0 - 97) + 10) h _ _ dX10_hexDigit_40)
noncomputable def f_Sc_hexDigit (v0 : Int32) : Int32 :=
  if v0 < 48 then
  f_Sc_hexDigit_J17 v0
  else
  if 57 < v0 then
  f_Sc_hexDigit_J17 v0
  else
  (v0 - 48)
set_option maxHeartbeats 4000000 in
set_option maxRecDepth 100000 in
theorem t_Sc_hexDigit (G : GG) (hR : gR G = rmx 0 0) (hL : gL G = 1) (C : Cx SC G cX10_hexDigit RX10) {Acc : Int32 → Prop}  (v0 : Int32) (s : St) (hr : ∀ v : Int32, Acc v → RtI SC G cX10_hexDigit v s) : JJ SC G Acc (some (f_Sc_hexDigit v0)) 0 [(0, .int v0)] [] s := by
  unfold f_Sc_hexDigit
  refine jr_iload_n C 0 rfl rfl dX10_hexDigit_0 ?_
  refine jr_bipush C bp_48 dX10_hexDigit_1 ?_
  refine jr_icmp_lt C (tgt := 17) dX10_hexDigit_3 (by decide) (fun h1 => ?_) (fun h1 => ?_)
  · refine jo_posP h1 ?_
    exact t_Sc_hexDigit_J17 G hR hL C  v0 s hr
  refine jo_negP h1 ?_
  refine jr_iload_n C 0 rfl rfl dX10_hexDigit_6 ?_
  refine jr_bipush C bp_57 dX10_hexDigit_7 ?_
  refine jr_icmp_gt C (tgt := 17) dX10_hexDigit_9 (by decide) (fun h4 => ?_) (fun h4 => ?_)
  · refine jo_posP h4 ?_
    exact t_Sc_hexDigit_J17 G hR hL C  v0 s hr
  refine jo_negP h4 ?_
  refine jr_iload_n C 0 rfl rfl dX10_hexDigit_12 ?_
  refine jr_bipush C bp_48 dX10_hexDigit_13 ?_
  refine jr_isub C dX10_hexDigit_15 ?_
  exact jr_end (fun h => hr (v0 - 48) h _ _ dX10_hexDigit_16)
set_option maxRecDepth 100000 in
theorem c_Sc_hexDigit (l : Launch)  (v0 : Int32) (s : St) : CT SC l yX10_hexDigit cX10_hexDigit 1 (some .int) 0 0 (fun a => [.int v0]) s s (fun _ => some (.int (f_Sc_hexDigit v0))) :=
  ct_I okX_C (by decide) (fun _ => Nat.le_of_ble_eq_true rfl) (fun G hl hR hL C hr => t_Sc_hexDigit G hR hL C (Acc := fun v => v = (f_Sc_hexDigit v0))  v0 s (fun v hv => by rw [hv]; exact hr) ⟨_, rfl, rfl⟩)
noncomputable def f_Sc_readHex_L4 (v1 : Int32) (v2 : Int32) (s : St) : Option ((Int32 × Int32 × St) ⊕ (Int32 × Int32 × St)) :=
  if 8 ≤ v2 then
  some (.inr (v1, v2, s))
  else
  (f_Sc_byteAt (s.1 3 1) s).bind fun q2 =>
  if (f_Sc_hexDigit q2) = (-1) then
  some (.inr (v1, v2, s))
  else
  (f_Sc_byteAt (s.1 3 1) s).bind fun q5 =>
  lt ((v1 <<< (4 &&& 31)) ||| (f_Sc_hexDigit q5)) fun x7 =>
  lt (uI s 3 1 ((s.1 3 1) + 1)) fun s8 =>
  some (.inl (x7, (v2 + 1), s8))
set_option maxHeartbeats 4000000 in
set_option maxRecDepth 100000 in
theorem t_Sc_readHex_L4 (G : GG) (hR : gR G = rmx 1 21) (hL : gL G = 3) (C : Cx SC G cX10_readHex RX10) {Acc : ((Int32 × Int32 × St) ⊕ (Int32 × Int32 × St)) → Prop}  (v1 : Int32) (v2 : Int32) (s : St) (hb1 : ∀ (a1 : Int32) (a2 : Int32) (t : St), Acc (.inl (a1, a2, t)) → KK SC G 4 [(0, .ref (ad G 3)), (1, .int a1), (2, .int a2)] [] t) (hx1 : ∀ (a1 : Int32) (a2 : Int32) (t : St), Acc (.inr (a1, a2, t)) → KK SC G 57 [(0, .ref (ad G 3)), (1, .int a1), (2, .int a2)] [] t) : JJ SC G Acc (f_Sc_readHex_L4 v1 v2 s) 4 [(0, .ref (ad G 3)), (1, .int v1), (2, .int v2)] [] s := by
  unfold f_Sc_readHex_L4
  refine jr_iload_n C 2 rfl rfl dX10_readHex_4 ?_
  refine jr_bipush C bp_8 dX10_readHex_5 ?_
  refine jr_icmp_ge C (tgt := 57) dX10_readHex_7 (by decide) (fun h1 => ?_) (fun h1 => ?_)
  · refine jo_pos h1 ?_
    exact jr_end (fun h => hx1 v1 v2 s h)
  refine jo_neg h1 ?_
  refine jr_aload_n C 0 rfl rfl dX10_readHex_10 ?_
  refine jr_aload_n C 0 rfl rfl dX10_readHex_11 ?_
  refine jr_getI C FX_8 1 oC_3.1 oC_3.2 ff_8_1.1 ff_8_1.2 fl_X10_15 dX10_readHex_12 ?_
  refine jr_bind (fun q2 e3 => ?_)
  refine jr_callVI C FX_8 km_X10_25 oC_3.1 oC_3.2 (rk hR rfl) (c_Sc_byteAt (gl G) (s.1 3 1) s e3) rfl rfl rfl (Nat.le_of_ble_eq_true rfl) dX10_readHex_15 ?_
  refine jr_callSI C km_X10_58 (rk hR rfl) (c_Sc_hexDigit (gl G) q2 s) rfl rfl rfl (Nat.le_of_ble_eq_true rfl) dX10_readHex_18 ?_
  refine jr_iconst C ic_m1 dX10_readHex_21 ?_
  refine jr_icmp_eq C (tgt := 57) dX10_readHex_22 (by decide) (fun h4 => ?_) (fun h4 => ?_)
  · refine jo_pos h4 ?_
    exact jr_end (fun h => hx1 v1 v2 s h)
  refine jo_neg h4 ?_
  refine jr_iload_n C 1 rfl rfl dX10_readHex_25 ?_
  refine jr_iconst C ic_4 dX10_readHex_26 ?_
  refine jr_ishl C dX10_readHex_27 ?_
  refine jr_aload_n C 0 rfl rfl dX10_readHex_28 ?_
  refine jr_aload_n C 0 rfl rfl dX10_readHex_29 ?_
  refine jr_getI C FX_8 1 oC_3.1 oC_3.2 ff_8_1.1 ff_8_1.2 fl_X10_15 dX10_readHex_30 ?_
  refine jr_bind (fun q5 e6 => ?_)
  refine jr_callVI C FX_8 km_X10_25 oC_3.1 oC_3.2 (rk hR rfl) (c_Sc_byteAt (gl G) (s.1 3 1) s e6) rfl rfl rfl (Nat.le_of_ble_eq_true rfl) dX10_readHex_33 ?_
  refine jr_callSI C km_X10_58 (rk hR rfl) (c_Sc_hexDigit (gl G) q5 s) rfl rfl rfl (Nat.le_of_ble_eq_true rfl) dX10_readHex_36 ?_
  refine jr_ior C dX10_readHex_39 ?_
  refine jr_ltI (fun x7 => ?_)
  refine jr_istore_n C (lv' := [(1, .int x7), (0, .ref (ad G 3)), (2, .int v2)]) (ltL hL rfl) rfl rfl dX10_readHex_40 ?_
  refine jr_aload_n C 1 rfl rfl dX10_readHex_41 ?_
  refine jr_dup C rfl dX10_readHex_42 ?_
  refine jr_getI C FX_8 1 oC_3.1 oC_3.2 ff_8_1.1 ff_8_1.2 fl_X10_15 dX10_readHex_43 ?_
  refine jr_iconst C ic_1 dX10_readHex_46 ?_
  refine jr_iadd C dX10_readHex_47 ?_
  refine jr_putI C FX_8 1 oC_3.1 oC_3.2 ff_8_1.1 ff_8_1.2 rfl rfl fl_X10_15 dX10_readHex_48 (jr_ltS fun s8 => ?_)
  refine jr_iinc C 2 rfl ii_1 (lv' := [(2, .int (v2 + 1)), (1, .int x7), (0, .ref (ad G 3))]) (ltL hL rfl) rfl dX10_readHex_51 ?_
  refine jr_goto C (tgt := 4) dX10_readHex_54 (by decide) ?_
  refine jr_lv [2, 1, 0] rfl ?_
  exact jr_end (fun h => hb1 x7 (v2 + 1) s8 h)
noncomputable def f_Sc_readHex  (s : St) : Option (Int32 × St) :=
  (wh (fun a : (Int32 × Int32 × St) => f_Sc_readHex_L4 a.1 a.2.1 a.2.2) (0, 0, s)).bind (fun b9 =>
  lt (uI (b9.2.2) 3 6 (b9.1)) fun s10 =>
  if b9.2.1 ≤ 0 then
  some (0, s10)
  else
  some (1, s10))
set_option maxHeartbeats 4000000 in
set_option maxRecDepth 100000 in
theorem t_Sc_readHex (G : GG) (hR : gR G = rmx 1 21) (hL : gL G = 3) (C : Cx SC G cX10_readHex RX10) {Acc : (Int32 × St) → Prop}   (s : St) (hr : ∀ v : (Int32 × St), Acc v → RtZ SC G cX10_readHex v.1 v.2) : JJ SC G Acc (f_Sc_readHex s) 0 [(0, .ref (ad G 3))] [] s := by
  unfold f_Sc_readHex
  refine jr_iconst C ic_0 dX10_readHex_0 ?_
  refine jr_istore_n C (lv' := [(1, .int 0), (0, .ref (ad G 3))]) (ltL hL rfl) rfl rfl dX10_readHex_1 ?_
  refine jr_iconst C ic_0 dX10_readHex_2 ?_
  refine jr_istore_n C (lv' := [(2, .int 0), (1, .int 0), (0, .ref (ad G 3))]) (ltL hL rfl) rfl rfl dX10_readHex_3 ?_
  refine jr_lv [2, 1, 0] rfl ?_
  refine jr_loopB (pc := 4) (pcx := 57) (f := fun a : (Int32 × Int32 × St) => f_Sc_readHex_L4 a.1 a.2.1 a.2.2) (fun a : (Int32 × Int32 × St) => [(0, .ref (ad G 3)), (1, .int (a.1)), (2, .int (a.2.1))]) (fun a : (Int32 × Int32 × St) => a.2.2) (0, 0, s) (fun a => t_Sc_readHex_L4 G hR hL C  a.1 a.2.1 a.2.2 (fun _ _ _ h => h) (fun _ _ _ h => h)) (fun b9 => ?_)
  refine jr_aload_n C 0 rfl rfl dX10_readHex_57 ?_
  refine jr_iload_n C 1 rfl rfl dX10_readHex_58 ?_
  refine jr_putI C FX_8 6 oC_3.1 oC_3.2 ff_8_6.1 ff_8_6.2 rfl rfl fl_X10_61 dX10_readHex_59 (jr_ltS fun s10 => ?_)
  refine jr_iload_n C 2 rfl rfl dX10_readHex_62 ?_
  refine jr_if_le C (tgt := 70) dX10_readHex_63 (by decide) (fun h11 => ?_) (fun h11 => ?_)
  · refine jo_pos h11 ?_
    refine jr_iconst C ic_0 dX10_readHex_70 ?_
    exact jr_end (fun h => hr (0, s10) h _ _ _ bN0 dX10_readHex_71)
  refine jo_neg h11 ?_
  refine jr_iconst C ic_1 dX10_readHex_66 ?_
  refine jr_goto C (tgt := 71) dX10_readHex_67 (by decide) ?_
  exact jr_end (fun h => hr (1, s10) h _ _ _ bN1 dX10_readHex_71)
set_option maxRecDepth 100000 in
theorem c_Sc_readHex (l : Launch)   (s : St) {q : (Int32 × St)} (h : f_Sc_readHex s = some q) : CT SC l yX10_readHex cX10_readHex 3 (some .boolean) 1 21 (fun a => [.ref (a 3)]) s q.2 (fun _ => some (.int q.1)) :=
  ct_Z okX_C (by decide) (fun _ => Nat.le_of_ble_eq_true rfl) (fun G hl hR hL C hr => t_Sc_readHex G hR hL C (Acc := fun v => v = q)   s (fun v hv => by rw [hv]; exact hr) ⟨_, h, rfl⟩)
noncomputable def f_Sc_readDecimal_L5 (v1 : Int32) (v2 : Int64) (v4 : Int32) (s : St) : Option ((Int64 × Int32 × St) ⊕ (Int64 × Int32 × St)) :=
  if 10 ≤ v4 then
  some (.inr (v2, v4, s))
  else
  (f_Sc_byteAt (s.1 3 1) s).bind fun q2 =>
  if (f_Sc_isDigit q2) = 0 then
  some (.inr (v2, v4, s))
  else
  if s.2.2 3 = 1 then
  (gd (s.1 3 1) 4000 <|
  lt ((v2 * 10) + (((s.1 1 ((s.1 3 1) : Int32).toNatClampNeg) - 48) : Int32).toInt64) fun x6 =>
  lt (uI s 3 1 ((s.1 3 1) + 1)) fun s7 =>
  some (.inl (x6, (v4 + 1), s7)))
  else none
set_option maxHeartbeats 4000000 in
set_option maxRecDepth 100000 in
theorem t_Sc_readDecimal_L5 (G : GG) (hR : gR G = rmx 1 21) (hL : gL G = 5) (C : Cx SC G cX10_readDecimal RX10) {Acc : ((Int64 × Int32 × St) ⊕ (Int64 × Int32 × St)) → Prop}  (v1 : Int32) (v2 : Int64) (v4 : Int32) (s : St) (hb1 : ∀ (a2 : Int64) (a4 : Int32) (t : St), Acc (.inl (a2, a4, t)) → KK SC G 5 [(0, .ref (ad G 3)), (1, .int v1), (2, .long a2), (4, .int a4)] [] t) (hx1 : ∀ (a2 : Int64) (a4 : Int32) (t : St), Acc (.inr (a2, a4, t)) → KK SC G 62 [(0, .ref (ad G 3)), (1, .int v1), (2, .long a2), (4, .int a4)] [] t) : JJ SC G Acc (f_Sc_readDecimal_L5 v1 v2 v4 s) 5 [(0, .ref (ad G 3)), (1, .int v1), (2, .long v2), (4, .int v4)] [] s := by
  unfold f_Sc_readDecimal_L5
  refine jr_iload C 3 rfl dX10_readDecimal_5 ?_
  refine jr_bipush C bp_10 dX10_readDecimal_7 ?_
  refine jr_icmp_ge C (tgt := 62) dX10_readDecimal_9 (by decide) (fun h1 => ?_) (fun h1 => ?_)
  · refine jo_pos h1 ?_
    exact jr_end (fun h => hx1 v2 v4 s h)
  refine jo_neg h1 ?_
  refine jr_aload_n C 0 rfl rfl dX10_readDecimal_12 ?_
  refine jr_aload_n C 0 rfl rfl dX10_readDecimal_13 ?_
  refine jr_getI C FX_8 1 oC_3.1 oC_3.2 ff_8_1.1 ff_8_1.2 fl_X10_15 dX10_readDecimal_14 ?_
  refine jr_bind (fun q2 e3 => ?_)
  refine jr_callVI C FX_8 km_X10_25 oC_3.1 oC_3.2 (rk hR rfl) (c_Sc_byteAt (gl G) (s.1 3 1) s e3) rfl rfl rfl (Nat.le_of_ble_eq_true rfl) dX10_readDecimal_17 ?_
  refine jr_callSI C km_X10_39 (rk hR rfl) (c_Sc_isDigit (gl G) q2 s) rfl rfl rfl (Nat.le_of_ble_eq_true rfl) dX10_readDecimal_20 ?_
  refine jr_if_eq C (tgt := 62) dX10_readDecimal_23 (by decide) (fun h4 => ?_) (fun h4 => ?_)
  · refine jo_pos h4 ?_
    exact jr_end (fun h => hx1 v2 v4 s h)
  refine jo_neg h4 ?_
  refine jr_lload_n C 2 rfl rfl dX10_readDecimal_26 ?_
  refine jr_ldc2 C kl_X10_64 dX10_readDecimal_27 ?_
  refine jr_lmul C dX10_readDecimal_30 ?_
  refine jr_aload_n C 0 rfl rfl dX10_readDecimal_31 ?_
  refine jr_getT C FX_8 0 oC_3.1 oC_3.2 ff_8_0.1 ff_8_0.2 rfl fl_X10_9 dX10_readDecimal_32 ?_
  refine jr_aload_n C 0 rfl rfl dX10_readDecimal_35 ?_
  refine jr_getI C FX_8 1 oC_3.1 oC_3.2 ff_8_1.1 ff_8_1.2 fl_X10_15 dX10_readDecimal_36 ?_
  refine jr_iald C oC_1.1 oC_1.2.1 oC_1.2.2 dX10_readDecimal_39 ?_
  refine jr_bipush C bp_48 dX10_readDecimal_40 ?_
  refine jr_isub C dX10_readDecimal_42 ?_
  refine jr_i2l C dX10_readDecimal_43 ?_
  refine jr_ladd C dX10_readDecimal_44 ?_
  refine jr_ltJ (fun x6 => ?_)
  refine jr_lstore_n C (lv' := [(2, .long x6), (0, .ref (ad G 3)), (1, .int v1), (4, .int v4)]) (ltL hL rfl) rfl rfl dX10_readDecimal_45 ?_
  refine jr_aload_n C 1 rfl rfl dX10_readDecimal_46 ?_
  refine jr_dup C rfl dX10_readDecimal_47 ?_
  refine jr_getI C FX_8 1 oC_3.1 oC_3.2 ff_8_1.1 ff_8_1.2 fl_X10_15 dX10_readDecimal_48 ?_
  refine jr_iconst C ic_1 dX10_readDecimal_51 ?_
  refine jr_iadd C dX10_readDecimal_52 ?_
  refine jr_putI C FX_8 1 oC_3.1 oC_3.2 ff_8_1.1 ff_8_1.2 rfl rfl fl_X10_15 dX10_readDecimal_53 (jr_ltS fun s7 => ?_)
  refine jr_iinc C 3 rfl ii_1 (lv' := [(4, .int (v4 + 1)), (2, .long x6), (0, .ref (ad G 3)), (1, .int v1)]) (ltL hL rfl) rfl dX10_readDecimal_56 ?_
  refine jr_goto C (tgt := 5) dX10_readDecimal_59 (by decide) ?_
  refine jr_lv [2, 3, 1, 0] rfl ?_
  exact jr_end (fun h => hb1 x6 (v4 + 1) s7 h)
noncomputable def f_Sc_readDecimal_J69 (v2 : Int64) (v4 : Int32) (s : St) : Option (Int32 × St) :=
  lt (uI s 3 6 ((v2 : Int64).toInt32)) fun s10 =>
  if v4 ≤ 0 then
  some (0, s10)
  else
  if (lg_cmp v2 (-2147483648)) < 0 then
  some (0, s10)
  else
  if 0 < (lg_cmp v2 4294967295) then
  some (0, s10)
  else
  some (1, s10)
set_option maxHeartbeats 4000000 in
set_option maxRecDepth 100000 in
theorem t_Sc_readDecimal_J69 (G : GG) (hR : gR G = rmx 1 21) (hL : gL G = 5) (C : Cx SC G cX10_readDecimal RX10) {Acc : (Int32 × St) → Prop}  (v2 : Int64) (v4 : Int32) (s : St) (hr : ∀ v : (Int32 × St), Acc v → RtZ SC G cX10_readDecimal v.1 v.2) : JJ SC G Acc (f_Sc_readDecimal_J69 v2 v4 s) 69 [(0, .ref (ad G 3)), (2, .long v2), (4, .int v4)] [] s := by
  unfold f_Sc_readDecimal_J69
  refine jr_aload_n C 0 rfl rfl dX10_readDecimal_69 ?_
  refine jr_lload_n C 1 rfl rfl dX10_readDecimal_70 ?_
  refine jr_l2i C dX10_readDecimal_71 ?_
  refine jr_putI C FX_8 6 oC_3.1 oC_3.2 ff_8_6.1 ff_8_6.2 rfl rfl fl_X10_61 dX10_readDecimal_72 (jr_ltS fun s10 => ?_)
  refine jr_iload C 2 rfl dX10_readDecimal_75 ?_
  refine jr_if_le C (tgt := 100) dX10_readDecimal_77 (by decide) (fun h11 => ?_) (fun h11 => ?_)
  · refine jo_pos h11 ?_
    refine jr_iconst C ic_0 dX10_readDecimal_100 ?_
    exact jr_end (fun h => hr (0, s10) h _ _ _ bN0 dX10_readDecimal_101)
  refine jo_neg h11 ?_
  refine jr_lload_n C 1 rfl rfl dX10_readDecimal_80 ?_
  refine jr_ldc2 C kl_X10_66 dX10_readDecimal_81 ?_
  refine jr_lcmp C dX10_readDecimal_84 ?_
  refine jr_if_lt C (tgt := 100) dX10_readDecimal_85 (by decide) (fun h12 => ?_) (fun h12 => ?_)
  · refine jo_pos h12 ?_
    refine jr_iconst C ic_0 dX10_readDecimal_100 ?_
    exact jr_end (fun h => hr (0, s10) h _ _ _ bN0 dX10_readDecimal_101)
  refine jo_neg h12 ?_
  refine jr_lload_n C 1 rfl rfl dX10_readDecimal_88 ?_
  refine jr_ldc2 C kl_X10_68 dX10_readDecimal_89 ?_
  refine jr_lcmp C dX10_readDecimal_92 ?_
  refine jr_if_gt C (tgt := 100) dX10_readDecimal_93 (by decide) (fun h13 => ?_) (fun h13 => ?_)
  · refine jo_pos h13 ?_
    refine jr_iconst C ic_0 dX10_readDecimal_100 ?_
    exact jr_end (fun h => hr (0, s10) h _ _ _ bN0 dX10_readDecimal_101)
  refine jo_neg h13 ?_
  refine jr_iconst C ic_1 dX10_readDecimal_96 ?_
  refine jr_goto C (tgt := 101) dX10_readDecimal_97 (by decide) ?_
  exact jr_end (fun h => hr (1, s10) h _ _ _ bN1 dX10_readDecimal_101)
noncomputable def f_Sc_readDecimal (v1 : Int32) (s : St) : Option (Int32 × St) :=
  (wh (fun a : (Int64 × Int32 × St) => f_Sc_readDecimal_L5 v1 a.1 a.2.1 a.2.2) (0, 0, s)).bind (fun b8 =>
  if v1 = 0 then
  f_Sc_readDecimal_J69 (b8.1) (b8.2.1) (b8.2.2)
  else
  lt (-b8.1) fun x14 =>
  f_Sc_readDecimal_J69 x14 (b8.2.1) (b8.2.2))
set_option maxHeartbeats 4000000 in
set_option maxRecDepth 100000 in
theorem t_Sc_readDecimal (G : GG) (hR : gR G = rmx 1 21) (hL : gL G = 5) (C : Cx SC G cX10_readDecimal RX10) {Acc : (Int32 × St) → Prop}  (v1 : Int32) (s : St) (hr : ∀ v : (Int32 × St), Acc v → RtZ SC G cX10_readDecimal v.1 v.2) : JJ SC G Acc (f_Sc_readDecimal v1 s) 0 [(0, .ref (ad G 3)), (1, .int v1)] [] s := by
  unfold f_Sc_readDecimal
  refine jr_lconst C (v := 0) (by decide) dX10_readDecimal_0 ?_
  refine jr_lstore_n C (lv' := [(2, .long 0), (0, .ref (ad G 3)), (1, .int v1)]) (ltL hL rfl) rfl rfl dX10_readDecimal_1 ?_
  refine jr_iconst C ic_0 dX10_readDecimal_2 ?_
  refine jr_istore C (lv' := [(4, .int 0), (2, .long 0), (0, .ref (ad G 3)), (1, .int v1)]) (ltL hL rfl) rfl dX10_readDecimal_3 ?_
  refine jr_lv [2, 3, 1, 0] rfl ?_
  refine jr_loopB (pc := 5) (pcx := 62) (f := fun a : (Int64 × Int32 × St) => f_Sc_readDecimal_L5 v1 a.1 a.2.1 a.2.2) (fun a : (Int64 × Int32 × St) => [(0, .ref (ad G 3)), (1, .int v1), (2, .long (a.1)), (4, .int (a.2.1))]) (fun a : (Int64 × Int32 × St) => a.2.2) (0, 0, s) (fun a => t_Sc_readDecimal_L5 G hR hL C  v1 a.1 a.2.1 a.2.2 (fun _ _ _ h => h) (fun _ _ _ h => h)) (fun b8 => ?_)
  refine jr_iload_n C 1 rfl rfl dX10_readDecimal_62 ?_
  refine jr_if_eq C (tgt := 69) dX10_readDecimal_63 (by decide) (fun h9 => ?_) (fun h9 => ?_)
  · refine jo_pos h9 ?_
    refine jr_lv [0, 2, 3] rfl ?_
    exact t_Sc_readDecimal_J69 G hR hL C  (b8.1) (b8.2.1) (b8.2.2) hr
  refine jo_neg h9 ?_
  refine jr_lload_n C 2 rfl rfl dX10_readDecimal_66 ?_
  refine jr_lneg C dX10_readDecimal_67 ?_
  refine jr_ltJ (fun x14 => ?_)
  refine jr_lstore_n C (lv' := [(2, .long x14), (0, .ref (ad G 3)), (1, .int v1), (4, .int (b8.2.1))]) (ltL hL rfl) rfl rfl dX10_readDecimal_68 ?_
  refine jr_lv [1, 0, 3] rfl ?_
  exact t_Sc_readDecimal_J69 G hR hL C  x14 (b8.2.1) (b8.2.2) hr
set_option maxRecDepth 100000 in
theorem c_Sc_readDecimal (l : Launch)  (v1 : Int32) (s : St) {q : (Int32 × St)} (h : f_Sc_readDecimal v1 s = some q) : CT SC l yX10_readDecimal cX10_readDecimal 5 (some .boolean) 1 21 (fun a => [.ref (a 3), .int v1]) s q.2 (fun _ => some (.int q.1)) :=
  ct_Z okX_C (by decide) (fun _ => Nat.le_of_ble_eq_true rfl) (fun G hl hR hL C hr => t_Sc_readDecimal G hR hL C (Acc := fun v => v = q)  v1 s (fun v hv => by rw [hv]; exact hr) ⟨_, h, rfl⟩)
noncomputable def f_Sc_readNumber_J128 (w0 : Int32) (s : St) : Option St :=
  lt (uI s 3 3 w0) fun s11 =>
  some s11
set_option maxHeartbeats 4000000 in
set_option maxRecDepth 100000 in
theorem t_Sc_readNumber_J128 (G : GG) (hR : gR G = rmx 2 45) (hL : gL G = 5) (C : Cx SC G cX10_readNumber RX10) {Acc : St → Prop}  (w0 : Int32) (s : St) (hr : ∀ v : St, Acc v → RtV SC G cX10_readNumber v) : JJ SC G Acc (f_Sc_readNumber_J128 w0 s) 128 [] [.int w0, .ref (ad G 3)] s := by
  unfold f_Sc_readNumber_J128
  refine jr_putI C FX_8 3 oC_3.1 oC_3.2 ff_8_3.1 ff_8_3.2 rfl rfl fl_X10_29 dX10_readNumber_128 (jr_ltS fun s11 => ?_)
  exact jr_end (fun h => hr s11 h _ _ dX10_readNumber_131)
noncomputable def f_Sc_readNumber_J127  (s : St) : Option St :=
  f_Sc_readNumber_J128 5 s
set_option maxHeartbeats 4000000 in
set_option maxRecDepth 100000 in
theorem t_Sc_readNumber_J127 (G : GG) (hR : gR G = rmx 2 45) (hL : gL G = 5) (C : Cx SC G cX10_readNumber RX10) {Acc : St → Prop}   (s : St) (hr : ∀ v : St, Acc v → RtV SC G cX10_readNumber v) : JJ SC G Acc (f_Sc_readNumber_J127 s) 127 [] [.ref (ad G 3)] s := by
  unfold f_Sc_readNumber_J127
  refine jr_iconst C ic_5 dX10_readNumber_127 ?_
  exact t_Sc_readNumber_J128 G hR hL C  5 s hr
noncomputable def f_Sc_readNumber_J111 (v2 : Int32) (w0 : Int32) (s : St) : Option St :=
  if v2 = 0 then
  f_Sc_readNumber_J127 s
  else
  if w0 = 0 then
  f_Sc_readNumber_J128 2 s
  else
  f_Sc_readNumber_J127 s
set_option maxHeartbeats 4000000 in
set_option maxRecDepth 100000 in
theorem t_Sc_readNumber_J111 (G : GG) (hR : gR G = rmx 2 45) (hL : gL G = 5) (C : Cx SC G cX10_readNumber RX10) {Acc : St → Prop}  (v2 : Int32) (w0 : Int32) (s : St) (hr : ∀ v : St, Acc v → RtV SC G cX10_readNumber v) : JJ SC G Acc (f_Sc_readNumber_J111 v2 w0 s) 111 [(0, .ref (ad G 3)), (2, .int v2)] [.int w0] s := by
  unfold f_Sc_readNumber_J111
  refine jr_istore C (lv' := [(4, .int w0), (0, .ref (ad G 3)), (2, .int v2)]) (ltL hL rfl) rfl dX10_readNumber_111 ?_
  refine jr_aload_n C 1 rfl rfl dX10_readNumber_113 ?_
  refine jr_iload_n C 2 rfl rfl dX10_readNumber_114 ?_
  refine jr_if_eq C (tgt := 127) dX10_readNumber_115 (by decide) (fun h10 => ?_) (fun h10 => ?_)
  · refine jo_pos h10 ?_
    refine jr_lv [] rfl ?_
    exact t_Sc_readNumber_J127 G hR hL C   s hr
  refine jo_neg h10 ?_
  refine jr_iload C 0 rfl dX10_readNumber_118 ?_
  refine jr_if_ne C (tgt := 127) dX10_readNumber_120 (by decide) (fun h12 => ?_) (fun h12 => ?_)
  · refine jo_neg h12 ?_
    refine jr_lv [] rfl ?_
    exact t_Sc_readNumber_J127 G hR hL C   s hr
  refine jo_pos h12 ?_
  refine jr_iconst C ic_2 dX10_readNumber_123 ?_
  refine jr_goto C (tgt := 128) dX10_readNumber_124 (by decide) ?_
  refine jr_lv [] rfl ?_
  exact t_Sc_readNumber_J128 G hR hL C  2 s hr
noncomputable def f_Sc_readNumber_J106 (v2 : Int32) (s : St) : Option St :=
  f_Sc_readNumber_J111 v2 1 s
set_option maxHeartbeats 4000000 in
set_option maxRecDepth 100000 in
theorem t_Sc_readNumber_J106 (G : GG) (hR : gR G = rmx 2 45) (hL : gL G = 5) (C : Cx SC G cX10_readNumber RX10) {Acc : St → Prop}  (v2 : Int32) (s : St) (hr : ∀ v : St, Acc v → RtV SC G cX10_readNumber v) : JJ SC G Acc (f_Sc_readNumber_J106 v2 s) 106 [(0, .ref (ad G 3)), (2, .int v2)] [] s := by
  unfold f_Sc_readNumber_J106
  refine jr_iconst C ic_1 dX10_readNumber_106 ?_
  refine jr_goto C (tgt := 111) dX10_readNumber_107 (by decide) ?_
  exact t_Sc_readNumber_J111 G hR hL C  v2 1 s hr
noncomputable def f_Sc_readNumber_J110 (v2 : Int32) (s : St) : Option St :=
  f_Sc_readNumber_J111 v2 0 s
set_option maxHeartbeats 4000000 in
set_option maxRecDepth 100000 in
theorem t_Sc_readNumber_J110 (G : GG) (hR : gR G = rmx 2 45) (hL : gL G = 5) (C : Cx SC G cX10_readNumber RX10) {Acc : St → Prop}  (v2 : Int32) (s : St) (hr : ∀ v : St, Acc v → RtV SC G cX10_readNumber v) : JJ SC G Acc (f_Sc_readNumber_J110 v2 s) 110 [(0, .ref (ad G 3)), (2, .int v2)] [] s := by
  unfold f_Sc_readNumber_J110
  refine jr_iconst C ic_0 dX10_readNumber_110 ?_
  exact t_Sc_readNumber_J111 G hR hL C  v2 0 s hr
noncomputable def f_Sc_readNumber_J71 (v2 : Int32) (s : St) : Option St :=
  (f_Sc_byteAt (s.1 3 1) s).bind fun q7 =>
  if (f_Sc_isLetter q7) = 0 then
  (if (f_Sc_isDigit q7) = 0 then
  (if q7 < 65 then
  f_Sc_readNumber_J110 v2 s
  else
  if 90 < q7 then
  f_Sc_readNumber_J110 v2 s
  else
  f_Sc_readNumber_J106 v2 s)
  else
  f_Sc_readNumber_J106 v2 s)
  else
  f_Sc_readNumber_J106 v2 s
set_option maxHeartbeats 4000000 in
set_option maxRecDepth 100000 in
theorem t_Sc_readNumber_J71 (G : GG) (hR : gR G = rmx 2 45) (hL : gL G = 5) (C : Cx SC G cX10_readNumber RX10) {Acc : St → Prop}  (v2 : Int32) (s : St) (hr : ∀ v : St, Acc v → RtV SC G cX10_readNumber v) : JJ SC G Acc (f_Sc_readNumber_J71 v2 s) 71 [(0, .ref (ad G 3)), (2, .int v2)] [] s := by
  unfold f_Sc_readNumber_J71
  refine jr_aload_n C 0 rfl rfl dX10_readNumber_71 ?_
  refine jr_aload_n C 0 rfl rfl dX10_readNumber_72 ?_
  refine jr_getI C FX_8 1 oC_3.1 oC_3.2 ff_8_1.1 ff_8_1.2 fl_X10_15 dX10_readNumber_73 ?_
  refine jr_bind (fun q7 e8 => ?_)
  refine jr_callVI C FX_8 km_X10_25 oC_3.1 oC_3.2 (rk hR rfl) (c_Sc_byteAt (gl G) (s.1 3 1) s e8) rfl rfl rfl (Nat.le_of_ble_eq_true rfl) dX10_readNumber_76 ?_
  refine jr_istore_n C (lv' := [(3, .int q7), (0, .ref (ad G 3)), (2, .int v2)]) (ltL hL rfl) rfl rfl dX10_readNumber_79 ?_
  refine jr_iload_n C 0 rfl rfl dX10_readNumber_80 ?_
  refine jr_callSI C km_X10_32 (rk hR rfl) (c_Sc_isLetter (gl G) q7 s) rfl rfl rfl (Nat.le_of_ble_eq_true rfl) dX10_readNumber_81 ?_
  refine jr_if_ne C (tgt := 106) dX10_readNumber_84 (by decide) (fun h9 => ?_) (fun h9 => ?_)
  · refine jo_neg h9 ?_
    refine jr_lv [1, 2] rfl ?_
    exact t_Sc_readNumber_J106 G hR hL C  v2 s hr
  refine jo_pos h9 ?_
  refine jr_iload_n C 0 rfl rfl dX10_readNumber_87 ?_
  refine jr_callSI C km_X10_39 (rk hR rfl) (c_Sc_isDigit (gl G) q7 s) rfl rfl rfl (Nat.le_of_ble_eq_true rfl) dX10_readNumber_88 ?_
  refine jr_if_ne C (tgt := 106) dX10_readNumber_91 (by decide) (fun h13 => ?_) (fun h13 => ?_)
  · refine jo_neg h13 ?_
    refine jr_lv [1, 2] rfl ?_
    exact t_Sc_readNumber_J106 G hR hL C  v2 s hr
  refine jo_pos h13 ?_
  refine jr_iload_n C 0 rfl rfl dX10_readNumber_94 ?_
  refine jr_bipush C bp_65 dX10_readNumber_95 ?_
  refine jr_icmp_lt C (tgt := 110) dX10_readNumber_97 (by decide) (fun h14 => ?_) (fun h14 => ?_)
  · refine jo_pos h14 ?_
    refine jr_lv [1, 2] rfl ?_
    exact t_Sc_readNumber_J110 G hR hL C  v2 s hr
  refine jo_neg h14 ?_
  refine jr_iload_n C 0 rfl rfl dX10_readNumber_100 ?_
  refine jr_bipush C bp_90 dX10_readNumber_101 ?_
  refine jr_icmp_gt C (tgt := 110) dX10_readNumber_103 (by decide) (fun h15 => ?_) (fun h15 => ?_)
  · refine jo_pos h15 ?_
    refine jr_lv [1, 2] rfl ?_
    exact t_Sc_readNumber_J110 G hR hL C  v2 s hr
  refine jo_neg h15 ?_
  refine jr_lv [1, 2] rfl ?_
  exact t_Sc_readNumber_J106 G hR hL C  v2 s hr
noncomputable def f_Sc_readNumber_J67 (w0 : Int32) (s : St) : Option St :=
  (f_Sc_readDecimal w0 s).bind fun q4 =>
  lt (q4.1) fun x6 =>
  f_Sc_readNumber_J71 x6 (q4.2)
set_option maxHeartbeats 4000000 in
set_option maxRecDepth 100000 in
theorem t_Sc_readNumber_J67 (G : GG) (hR : gR G = rmx 2 45) (hL : gL G = 5) (C : Cx SC G cX10_readNumber RX10) {Acc : St → Prop}  (w0 : Int32) (s : St) (hr : ∀ v : St, Acc v → RtV SC G cX10_readNumber v) : JJ SC G Acc (f_Sc_readNumber_J67 w0 s) 67 [(0, .ref (ad G 3))] [.int w0, .ref (ad G 3)] s := by
  unfold f_Sc_readNumber_J67
  refine jr_bind (fun q4 e5 => ?_)
  refine jr_callVI C FX_8 km_X10_54 oC_3.1 oC_3.2 (rk hR rfl) (c_Sc_readDecimal (gl G) w0 s e5) rfl rfl rfl (Nat.le_of_ble_eq_true rfl) dX10_readNumber_67 ?_
  refine jr_ltI (fun x6 => ?_)
  refine jr_istore_n C (lv' := [(2, .int x6), (0, .ref (ad G 3))]) (ltL hL rfl) rfl rfl dX10_readNumber_70 ?_
  refine jr_lv [1, 0] rfl ?_
  exact t_Sc_readNumber_J71 G hR hL C  x6 (q4.2) hr
noncomputable def f_Sc_readNumber_J55 (v1 : Int32) (s : St) : Option St :=
  if v1 = 45 then
  f_Sc_readNumber_J67 1 s
  else
  f_Sc_readNumber_J67 0 s
set_option maxHeartbeats 4000000 in
set_option maxRecDepth 100000 in
theorem t_Sc_readNumber_J55 (G : GG) (hR : gR G = rmx 2 45) (hL : gL G = 5) (C : Cx SC G cX10_readNumber RX10) {Acc : St → Prop}  (v1 : Int32) (s : St) (hr : ∀ v : St, Acc v → RtV SC G cX10_readNumber v) : JJ SC G Acc (f_Sc_readNumber_J55 v1 s) 55 [(0, .ref (ad G 3)), (1, .int v1)] [] s := by
  unfold f_Sc_readNumber_J55
  refine jr_aload_n C 0 rfl rfl dX10_readNumber_55 ?_
  refine jr_iload_n C 1 rfl rfl dX10_readNumber_56 ?_
  refine jr_bipush C bp_45 dX10_readNumber_57 ?_
  refine jr_icmp_ne C (tgt := 66) dX10_readNumber_59 (by decide) (fun h3 => ?_) (fun h3 => ?_)
  · refine jo_neg h3 ?_
    refine jr_iconst C ic_0 dX10_readNumber_66 ?_
    refine jr_lv [0] rfl ?_
    exact t_Sc_readNumber_J67 G hR hL C  0 s hr
  refine jo_pos h3 ?_
  refine jr_iconst C ic_1 dX10_readNumber_62 ?_
  refine jr_goto C (tgt := 67) dX10_readNumber_63 (by decide) ?_
  refine jr_lv [0] rfl ?_
  exact t_Sc_readNumber_J67 G hR hL C  1 s hr
noncomputable def f_Sc_readNumber_J39 (v1 : Int32) (s : St) : Option St :=
  if v1 = 45 then
  (lt (uI s 3 1 ((s.1 3 1) + 1)) fun s16 =>
  f_Sc_readNumber_J55 v1 s16)
  else
  f_Sc_readNumber_J55 v1 s
set_option maxHeartbeats 4000000 in
set_option maxRecDepth 100000 in
theorem t_Sc_readNumber_J39 (G : GG) (hR : gR G = rmx 2 45) (hL : gL G = 5) (C : Cx SC G cX10_readNumber RX10) {Acc : St → Prop}  (v1 : Int32) (s : St) (hr : ∀ v : St, Acc v → RtV SC G cX10_readNumber v) : JJ SC G Acc (f_Sc_readNumber_J39 v1 s) 39 [(0, .ref (ad G 3)), (1, .int v1)] [] s := by
  unfold f_Sc_readNumber_J39
  refine jr_iload_n C 1 rfl rfl dX10_readNumber_39 ?_
  refine jr_bipush C bp_45 dX10_readNumber_40 ?_
  refine jr_icmp_ne C (tgt := 55) dX10_readNumber_42 (by decide) (fun h2 => ?_) (fun h2 => ?_)
  · refine jo_neg h2 ?_
    exact t_Sc_readNumber_J55 G hR hL C  v1 s hr
  refine jo_pos h2 ?_
  refine jr_aload_n C 0 rfl rfl dX10_readNumber_45 ?_
  refine jr_dup C rfl dX10_readNumber_46 ?_
  refine jr_getI C FX_8 1 oC_3.1 oC_3.2 ff_8_1.1 ff_8_1.2 fl_X10_15 dX10_readNumber_47 ?_
  refine jr_iconst C ic_1 dX10_readNumber_50 ?_
  refine jr_iadd C dX10_readNumber_51 ?_
  refine jr_putI C FX_8 1 oC_3.1 oC_3.2 ff_8_1.1 ff_8_1.2 rfl rfl fl_X10_15 dX10_readNumber_52 (jr_ltS fun s16 => ?_)
  exact t_Sc_readNumber_J55 G hR hL C  v1 s16 hr
noncomputable def f_Sc_readNumber (v1 : Int32) (s : St) : Option St :=
  if v1 = 48 then
  ((f_Sc_byteAt ((s.1 3 1) + 1) s).bind fun q17 =>
  if q17 = 120 then
  (lt (uI s 3 1 ((s.1 3 1) + 2)) fun s20 =>
  (f_Sc_readHex s20).bind fun q21 =>
  lt (q21.1) fun x23 =>
  f_Sc_readNumber_J71 x23 (q21.2))
  else
  f_Sc_readNumber_J39 v1 s)
  else
  f_Sc_readNumber_J39 v1 s
set_option maxHeartbeats 4000000 in
set_option maxRecDepth 100000 in
theorem t_Sc_readNumber (G : GG) (hR : gR G = rmx 2 45) (hL : gL G = 5) (C : Cx SC G cX10_readNumber RX10) {Acc : St → Prop}  (v1 : Int32) (s : St) (hr : ∀ v : St, Acc v → RtV SC G cX10_readNumber v) : JJ SC G Acc (f_Sc_readNumber v1 s) 0 [(0, .ref (ad G 3)), (1, .int v1)] [] s := by
  unfold f_Sc_readNumber
  refine jr_iload_n C 1 rfl rfl dX10_readNumber_0 ?_
  refine jr_bipush C bp_48 dX10_readNumber_1 ?_
  refine jr_icmp_ne C (tgt := 39) dX10_readNumber_3 (by decide) (fun h1 => ?_) (fun h1 => ?_)
  · refine jo_neg h1 ?_
    exact t_Sc_readNumber_J39 G hR hL C  v1 s hr
  refine jo_pos h1 ?_
  refine jr_aload_n C 0 rfl rfl dX10_readNumber_6 ?_
  refine jr_aload_n C 0 rfl rfl dX10_readNumber_7 ?_
  refine jr_getI C FX_8 1 oC_3.1 oC_3.2 ff_8_1.1 ff_8_1.2 fl_X10_15 dX10_readNumber_8 ?_
  refine jr_iconst C ic_1 dX10_readNumber_11 ?_
  refine jr_iadd C dX10_readNumber_12 ?_
  refine jr_bind (fun q17 e18 => ?_)
  refine jr_callVI C FX_8 km_X10_25 oC_3.1 oC_3.2 (rk hR rfl) (c_Sc_byteAt (gl G) ((s.1 3 1) + 1) s e18) rfl rfl rfl (Nat.le_of_ble_eq_true rfl) dX10_readNumber_13 ?_
  refine jr_bipush C bp_120 dX10_readNumber_16 ?_
  refine jr_icmp_ne C (tgt := 39) dX10_readNumber_18 (by decide) (fun h19 => ?_) (fun h19 => ?_)
  · refine jo_neg h19 ?_
    exact t_Sc_readNumber_J39 G hR hL C  v1 s hr
  refine jo_pos h19 ?_
  refine jr_aload_n C 0 rfl rfl dX10_readNumber_21 ?_
  refine jr_dup C rfl dX10_readNumber_22 ?_
  refine jr_getI C FX_8 1 oC_3.1 oC_3.2 ff_8_1.1 ff_8_1.2 fl_X10_15 dX10_readNumber_23 ?_
  refine jr_iconst C ic_2 dX10_readNumber_26 ?_
  refine jr_iadd C dX10_readNumber_27 ?_
  refine jr_putI C FX_8 1 oC_3.1 oC_3.2 ff_8_1.1 ff_8_1.2 rfl rfl fl_X10_15 dX10_readNumber_28 (jr_ltS fun s20 => ?_)
  refine jr_aload_n C 0 rfl rfl dX10_readNumber_31 ?_
  refine jr_bind (fun q21 e22 => ?_)
  refine jr_callVI C FX_8 km_X10_50 oC_3.1 oC_3.2 (rk hR rfl) (c_Sc_readHex (gl G) s20 e22) rfl rfl rfl (Nat.le_of_ble_eq_true rfl) dX10_readNumber_32 ?_
  refine jr_ltI (fun x23 => ?_)
  refine jr_istore_n C (lv' := [(2, .int x23), (0, .ref (ad G 3)), (1, .int v1)]) (ltL hL rfl) rfl rfl dX10_readNumber_35 ?_
  refine jr_goto C (tgt := 71) dX10_readNumber_36 (by decide) ?_
  refine jr_lv [1, 0] rfl ?_
  exact t_Sc_readNumber_J71 G hR hL C  x23 (q21.2) hr
set_option maxRecDepth 100000 in
theorem c_Sc_readNumber (l : Launch)  (v1 : Int32) (s : St) {q : St} (h : f_Sc_readNumber v1 s = some q) : CT SC l yX10_readNumber cX10_readNumber 5 none 2 45 (fun a => [.ref (a 3), .int v1]) s q (fun _ => none) :=
  ct_V okX_C (by decide) (fun _ => Nat.le_of_ble_eq_true rfl) (fun G hl hR hL C hr => t_Sc_readNumber G hR hL C (Acc := fun v => v = q)  v1 s (fun v hv => by rw [hv]; exact hr) ⟨_, h, rfl⟩)
noncomputable def f_Sc_readPiece_L0  (s : St) : Option (St ⊕ St) :=
  if (s.1 3 2) ≤ (s.1 3 1) then
  some (.inr s)
  else
  if s.2.2 3 = 1 then
  (gd (s.1 3 1) 4000 <|
  if (s.1 1 ((s.1 3 1) : Int32).toNatClampNeg) = 32 then
  (lt (uI s 3 1 ((s.1 3 1) + 1)) fun s4 =>
  some (.inl s4))
  else
  some (.inr s))
  else none
set_option maxHeartbeats 4000000 in
set_option maxRecDepth 100000 in
theorem t_Sc_readPiece_L0 (G : GG) (hR : gR G = rmx 3 69) (hL : gL G = 2) (C : Cx SC G cX10_readPiece RX10) {Acc : (St ⊕ St) → Prop}   (s : St) (hb1 : ∀  (t : St), Acc (.inl t) → KK SC G 0 [(0, .ref (ad G 3))] [] t) (hx1 : ∀  (t : St), Acc (.inr t) → KK SC G 38 [(0, .ref (ad G 3))] [] t) : JJ SC G Acc (f_Sc_readPiece_L0 s) 0 [(0, .ref (ad G 3))] [] s := by
  unfold f_Sc_readPiece_L0
  refine jr_aload_n C 0 rfl rfl dX10_readPiece_0 ?_
  refine jr_getI C FX_8 1 oC_3.1 oC_3.2 ff_8_1.1 ff_8_1.2 fl_X10_15 dX10_readPiece_1 ?_
  refine jr_aload_n C 0 rfl rfl dX10_readPiece_4 ?_
  refine jr_getI C FX_8 2 oC_3.1 oC_3.2 ff_8_2.1 ff_8_2.2 fl_X10_19 dX10_readPiece_5 ?_
  refine jr_icmp_ge C (tgt := 38) dX10_readPiece_8 (by decide) (fun h1 => ?_) (fun h1 => ?_)
  · refine jo_pos h1 ?_
    exact jr_end (fun h => hx1 s h)
  refine jo_neg h1 ?_
  refine jr_aload_n C 0 rfl rfl dX10_readPiece_11 ?_
  refine jr_getT C FX_8 0 oC_3.1 oC_3.2 ff_8_0.1 ff_8_0.2 rfl fl_X10_9 dX10_readPiece_12 ?_
  refine jr_aload_n C 0 rfl rfl dX10_readPiece_15 ?_
  refine jr_getI C FX_8 1 oC_3.1 oC_3.2 ff_8_1.1 ff_8_1.2 fl_X10_15 dX10_readPiece_16 ?_
  refine jr_iald C oC_1.1 oC_1.2.1 oC_1.2.2 dX10_readPiece_19 ?_
  refine jr_bipush C bp_32 dX10_readPiece_20 ?_
  refine jr_icmp_ne C (tgt := 38) dX10_readPiece_22 (by decide) (fun h3 => ?_) (fun h3 => ?_)
  · refine jo_neg h3 ?_
    exact jr_end (fun h => hx1 s h)
  refine jo_pos h3 ?_
  refine jr_aload_n C 0 rfl rfl dX10_readPiece_25 ?_
  refine jr_dup C rfl dX10_readPiece_26 ?_
  refine jr_getI C FX_8 1 oC_3.1 oC_3.2 ff_8_1.1 ff_8_1.2 fl_X10_15 dX10_readPiece_27 ?_
  refine jr_iconst C ic_1 dX10_readPiece_30 ?_
  refine jr_iadd C dX10_readPiece_31 ?_
  refine jr_putI C FX_8 1 oC_3.1 oC_3.2 ff_8_1.1 ff_8_1.2 rfl rfl fl_X10_15 dX10_readPiece_32 (jr_ltS fun s4 => ?_)
  refine jr_goto C (tgt := 0) dX10_readPiece_35 (by decide) ?_
  exact jr_end (fun h => hb1 s4 h)
noncomputable def f_Sc_readPiece_J66  (s : St) : Option St :=
  lt (uI s 3 4 (s.1 3 2)) fun s10 =>
  lt (uI s10 3 1 (s10.1 3 2)) fun s11 =>
  lt (uI s11 3 3 0) fun s12 =>
  some s12
set_option maxHeartbeats 4000000 in
set_option maxRecDepth 100000 in
theorem t_Sc_readPiece_J66 (G : GG) (hR : gR G = rmx 3 69) (hL : gL G = 2) (C : Cx SC G cX10_readPiece RX10) {Acc : St → Prop}   (s : St) (hr : ∀ v : St, Acc v → RtV SC G cX10_readPiece v) : JJ SC G Acc (f_Sc_readPiece_J66 s) 66 [(0, .ref (ad G 3))] [] s := by
  unfold f_Sc_readPiece_J66
  refine jr_aload_n C 0 rfl rfl dX10_readPiece_66 ?_
  refine jr_aload_n C 0 rfl rfl dX10_readPiece_67 ?_
  refine jr_getI C FX_8 2 oC_3.1 oC_3.2 ff_8_2.1 ff_8_2.2 fl_X10_19 dX10_readPiece_68 ?_
  refine jr_putI C FX_8 4 oC_3.1 oC_3.2 ff_8_4.1 ff_8_4.2 rfl rfl fl_X10_22 dX10_readPiece_71 (jr_ltS fun s10 => ?_)
  refine jr_aload_n C 0 rfl rfl dX10_readPiece_74 ?_
  refine jr_aload_n C 0 rfl rfl dX10_readPiece_75 ?_
  refine jr_getI C FX_8 2 oC_3.1 oC_3.2 ff_8_2.1 ff_8_2.2 fl_X10_19 dX10_readPiece_76 ?_
  refine jr_putI C FX_8 1 oC_3.1 oC_3.2 ff_8_1.1 ff_8_1.2 rfl rfl fl_X10_15 dX10_readPiece_79 (jr_ltS fun s11 => ?_)
  refine jr_aload_n C 0 rfl rfl dX10_readPiece_82 ?_
  refine jr_iconst C ic_0 dX10_readPiece_83 ?_
  refine jr_putI C FX_8 3 oC_3.1 oC_3.2 ff_8_3.1 ff_8_3.2 rfl rfl fl_X10_29 dX10_readPiece_84 (jr_ltS fun s12 => ?_)
  refine jr_goto C (tgt := 160) dX10_readPiece_87 (by decide) ?_
  exact jr_end (fun h => hr s12 h _ _ dX10_readPiece_160)
noncomputable def f_Sc_readPiece_J117 (v1 : Int32) (s : St) : Option St :=
  (f_Sc_readNumber v1 s).bind fun q16 =>
  some q16
set_option maxHeartbeats 4000000 in
set_option maxRecDepth 100000 in
theorem t_Sc_readPiece_J117 (G : GG) (hR : gR G = rmx 3 69) (hL : gL G = 2) (C : Cx SC G cX10_readPiece RX10) {Acc : St → Prop}  (v1 : Int32) (s : St) (hr : ∀ v : St, Acc v → RtV SC G cX10_readPiece v) : JJ SC G Acc (f_Sc_readPiece_J117 v1 s) 117 [(0, .ref (ad G 3)), (1, .int v1)] [] s := by
  unfold f_Sc_readPiece_J117
  refine jr_aload_n C 0 rfl rfl dX10_readPiece_117 ?_
  refine jr_iload_n C 1 rfl rfl dX10_readPiece_118 ?_
  refine jr_bind (fun q16 e17 => ?_)
  refine jr_callVV C FX_8 km_X10_42 oC_3.1 oC_3.2 (rk hR rfl) (c_Sc_readNumber (gl G) v1 s e17) rfl rfl rfl (Nat.le_of_ble_eq_true rfl) dX10_readPiece_119 ?_
  refine jr_goto C (tgt := 160) dX10_readPiece_122 (by decide) ?_
  exact jr_end (fun h => hr q16 h _ _ dX10_readPiece_160)
noncomputable def f_Sc_readPiece_J157 (w0 : Int32) (s : St) : Option St :=
  lt (uI s 3 3 w0) fun s22 =>
  some s22
set_option maxHeartbeats 4000000 in
set_option maxRecDepth 100000 in
theorem t_Sc_readPiece_J157 (G : GG) (hR : gR G = rmx 3 69) (hL : gL G = 2) (C : Cx SC G cX10_readPiece RX10) {Acc : St → Prop}  (w0 : Int32) (s : St) (hr : ∀ v : St, Acc v → RtV SC G cX10_readPiece v) : JJ SC G Acc (f_Sc_readPiece_J157 w0 s) 157 [] [.int w0, .ref (ad G 3)] s := by
  unfold f_Sc_readPiece_J157
  refine jr_putI C FX_8 3 oC_3.1 oC_3.2 ff_8_3.1 ff_8_3.2 rfl rfl fl_X10_29 dX10_readPiece_157 (jr_ltS fun s22 => ?_)
  exact jr_end (fun h => hr s22 h _ _ dX10_readPiece_160)
noncomputable def f_Sc_readPiece  (s : St) : Option St :=
  (wh (fun a : St => f_Sc_readPiece_L0  a) s).bind (fun b5 =>
  lt (uI b5 3 4 (b5.1 3 1)) fun s6 =>
  (f_Sc_byteAt (s6.1 3 1) s6).bind fun q7 =>
  if q7 = (-1) then
  f_Sc_readPiece_J66 s6
  else
  if q7 = 59 then
  f_Sc_readPiece_J66 s6
  else
  if (f_Sc_isLetter q7) = 0 then
  (if q7 = 45 then
  f_Sc_readPiece_J117 q7 s6
  else
  if (f_Sc_isDigit q7) = 0 then
  (lt (uI s6 3 1 ((s6.1 3 1) + 1)) fun s19 =>
  if q7 = 44 then
  f_Sc_readPiece_J157 3 s19
  else
  if q7 = 58 then
  f_Sc_readPiece_J157 4 s19
  else
  f_Sc_readPiece_J157 5 s19)
  else
  f_Sc_readPiece_J117 q7 s6)
  else
  (f_Sc_readWord s6).bind fun q23 =>
  some q23)
set_option maxHeartbeats 4000000 in
set_option maxRecDepth 100000 in
theorem t_Sc_readPiece (G : GG) (hR : gR G = rmx 3 69) (hL : gL G = 2) (C : Cx SC G cX10_readPiece RX10) {Acc : St → Prop}   (s : St) (hr : ∀ v : St, Acc v → RtV SC G cX10_readPiece v) : JJ SC G Acc (f_Sc_readPiece s) 0 [(0, .ref (ad G 3))] [] s := by
  unfold f_Sc_readPiece
  refine jr_loopB (pc := 0) (pcx := 38) (f := fun a : St => f_Sc_readPiece_L0  a) (fun a : St => [(0, .ref (ad G 3))]) (fun a : St => a) s (fun a => t_Sc_readPiece_L0 G hR hL C   a (fun _ h => h) (fun _ h => h)) (fun b5 => ?_)
  refine jr_aload_n C 0 rfl rfl dX10_readPiece_38 ?_
  refine jr_aload_n C 0 rfl rfl dX10_readPiece_39 ?_
  refine jr_getI C FX_8 1 oC_3.1 oC_3.2 ff_8_1.1 ff_8_1.2 fl_X10_15 dX10_readPiece_40 ?_
  refine jr_putI C FX_8 4 oC_3.1 oC_3.2 ff_8_4.1 ff_8_4.2 rfl rfl fl_X10_22 dX10_readPiece_43 (jr_ltS fun s6 => ?_)
  refine jr_aload_n C 0 rfl rfl dX10_readPiece_46 ?_
  refine jr_aload_n C 0 rfl rfl dX10_readPiece_47 ?_
  refine jr_getI C FX_8 1 oC_3.1 oC_3.2 ff_8_1.1 ff_8_1.2 fl_X10_15 dX10_readPiece_48 ?_
  refine jr_bind (fun q7 e8 => ?_)
  refine jr_callVI C FX_8 km_X10_25 oC_3.1 oC_3.2 (rk hR rfl) (c_Sc_byteAt (gl G) (s6.1 3 1) s6 e8) rfl rfl rfl (Nat.le_of_ble_eq_true rfl) dX10_readPiece_51 ?_
  refine jr_istore_n C (lv' := [(1, .int q7), (0, .ref (ad G 3))]) (ltL hL rfl) rfl rfl dX10_readPiece_54 ?_
  refine jr_iload_n C 0 rfl rfl dX10_readPiece_55 ?_
  refine jr_iconst C ic_m1 dX10_readPiece_56 ?_
  refine jr_icmp_eq C (tgt := 66) dX10_readPiece_57 (by decide) (fun h9 => ?_) (fun h9 => ?_)
  · refine jo_pos h9 ?_
    refine jr_lv [1] rfl ?_
    exact t_Sc_readPiece_J66 G hR hL C   s6 hr
  refine jo_neg h9 ?_
  refine jr_iload_n C 0 rfl rfl dX10_readPiece_60 ?_
  refine jr_bipush C bp_59 dX10_readPiece_61 ?_
  refine jr_icmp_ne C (tgt := 90) dX10_readPiece_63 (by decide) (fun h13 => ?_) (fun h13 => ?_)
  · refine jo_neg h13 ?_
    refine jr_iload_n C 0 rfl rfl dX10_readPiece_90 ?_
    refine jr_callSI C km_X10_32 (rk hR rfl) (c_Sc_isLetter (gl G) q7 s6) rfl rfl rfl (Nat.le_of_ble_eq_true rfl) dX10_readPiece_91 ?_
    refine jr_if_eq C (tgt := 104) dX10_readPiece_94 (by decide) (fun h14 => ?_) (fun h14 => ?_)
    · refine jo_pos h14 ?_
      refine jr_iload_n C 0 rfl rfl dX10_readPiece_104 ?_
      refine jr_bipush C bp_45 dX10_readPiece_105 ?_
      refine jr_icmp_eq C (tgt := 117) dX10_readPiece_107 (by decide) (fun h15 => ?_) (fun h15 => ?_)
      · refine jo_pos h15 ?_
        refine jr_lv [1, 0] rfl ?_
        exact t_Sc_readPiece_J117 G hR hL C  q7 s6 hr
      refine jo_neg h15 ?_
      refine jr_iload_n C 0 rfl rfl dX10_readPiece_110 ?_
      refine jr_callSI C km_X10_39 (rk hR rfl) (c_Sc_isDigit (gl G) q7 s6) rfl rfl rfl (Nat.le_of_ble_eq_true rfl) dX10_readPiece_111 ?_
      refine jr_if_eq C (tgt := 125) dX10_readPiece_114 (by decide) (fun h18 => ?_) (fun h18 => ?_)
      · refine jo_pos h18 ?_
        refine jr_aload_n C 1 rfl rfl dX10_readPiece_125 ?_
        refine jr_dup C rfl dX10_readPiece_126 ?_
        refine jr_getI C FX_8 1 oC_3.1 oC_3.2 ff_8_1.1 ff_8_1.2 fl_X10_15 dX10_readPiece_127 ?_
        refine jr_iconst C ic_1 dX10_readPiece_130 ?_
        refine jr_iadd C dX10_readPiece_131 ?_
        refine jr_putI C FX_8 1 oC_3.1 oC_3.2 ff_8_1.1 ff_8_1.2 rfl rfl fl_X10_15 dX10_readPiece_132 (jr_ltS fun s19 => ?_)
        refine jr_aload_n C 1 rfl rfl dX10_readPiece_135 ?_
        refine jr_iload_n C 0 rfl rfl dX10_readPiece_136 ?_
        refine jr_bipush C bp_44 dX10_readPiece_137 ?_
        refine jr_icmp_ne C (tgt := 146) dX10_readPiece_139 (by decide) (fun h20 => ?_) (fun h20 => ?_)
        · refine jo_neg h20 ?_
          refine jr_iload_n C 0 rfl rfl dX10_readPiece_146 ?_
          refine jr_bipush C bp_58 dX10_readPiece_147 ?_
          refine jr_icmp_ne C (tgt := 156) dX10_readPiece_149 (by decide) (fun h21 => ?_) (fun h21 => ?_)
          · refine jo_neg h21 ?_
            refine jr_iconst C ic_5 dX10_readPiece_156 ?_
            refine jr_lv [] rfl ?_
            exact t_Sc_readPiece_J157 G hR hL C  5 s19 hr
          refine jo_pos h21 ?_
          refine jr_iconst C ic_4 dX10_readPiece_152 ?_
          refine jr_goto C (tgt := 157) dX10_readPiece_153 (by decide) ?_
          refine jr_lv [] rfl ?_
          exact t_Sc_readPiece_J157 G hR hL C  4 s19 hr
        refine jo_pos h20 ?_
        refine jr_iconst C ic_3 dX10_readPiece_142 ?_
        refine jr_goto C (tgt := 157) dX10_readPiece_143 (by decide) ?_
        refine jr_lv [] rfl ?_
        exact t_Sc_readPiece_J157 G hR hL C  3 s19 hr
      refine jo_neg h18 ?_
      refine jr_lv [1, 0] rfl ?_
      exact t_Sc_readPiece_J117 G hR hL C  q7 s6 hr
    refine jo_neg h14 ?_
    refine jr_aload_n C 1 rfl rfl dX10_readPiece_97 ?_
    refine jr_bind (fun q23 e24 => ?_)
    refine jr_callVV C FX_8 km_X10_36 oC_3.1 oC_3.2 (rk hR rfl) (c_Sc_readWord (gl G) s6 e24) rfl rfl rfl (Nat.le_of_ble_eq_true rfl) dX10_readPiece_98 ?_
    refine jr_goto C (tgt := 160) dX10_readPiece_101 (by decide) ?_
    exact jr_end (fun h => hr q23 h _ _ dX10_readPiece_160)
  refine jo_pos h13 ?_
  refine jr_lv [1] rfl ?_
  exact t_Sc_readPiece_J66 G hR hL C   s6 hr
set_option maxRecDepth 100000 in
theorem c_Sc_readPiece (l : Launch)   (s : St) {q : St} (h : f_Sc_readPiece s = some q) : CT SC l yX10_readPiece cX10_readPiece 2 none 3 69 (fun a => [.ref (a 3)]) s q (fun _ => none) :=
  ct_V okX_C (by decide) (fun _ => Nat.le_of_ble_eq_true rfl) (fun G hl hR hL C hr => t_Sc_readPiece G hR hL C (Acc := fun v => v = q)   s (fun v hv => by rw [hv]; exact hr) ⟨_, h, rfl⟩)
noncomputable def f_As_registerOf (v0 : Int64) : Int32 :=
  if (lg_cmp ((v0 - 29184) - 48) 0) < 0 then
  (-1)
  else
  if 0 ≤ (lg_cmp ((v0 - 29184) - 48) 8) then
  (-1)
  else
  (((v0 - 29184) - 48) : Int64).toInt32
set_option maxHeartbeats 4000000 in
set_option maxRecDepth 100000 in
theorem t_As_registerOf (G : GG) (hR : gR G = rmx 0 0) (hL : gL G = 4) (C : Cx SC G cX0_registerOf RX0) {Acc : Int32 → Prop}  (v0 : Int64) (s : St) (hr : ∀ v : Int32, Acc v → RtI SC G cX0_registerOf v s) : JJ SC G Acc (some (f_As_registerOf v0)) 0 [(0, .long v0)] [] s := by
  unfold f_As_registerOf
  refine jr_lload_n C 0 rfl rfl dX0_registerOf_0 ?_
  refine jr_ldc2 C kl_X0_160 dX0_registerOf_1 ?_
  refine jr_lsub C dX0_registerOf_4 ?_
  refine jr_ldc2 C kl_X0_162 dX0_registerOf_5 ?_
  refine jr_lsub C dX0_registerOf_8 ?_
  refine jr_lstore_n C (lv' := [(2, .long ((v0 - 29184) - 48)), (0, .long v0)]) (ltL hL rfl) rfl rfl dX0_registerOf_9 ?_
  refine jr_lload_n C 0 rfl rfl dX0_registerOf_10 ?_
  refine jr_lconst C (v := 0) (by decide) dX0_registerOf_11 ?_
  refine jr_lcmp C dX0_registerOf_12 ?_
  refine jr_if_lt C (tgt := 29) dX0_registerOf_13 (by decide) (fun h1 => ?_) (fun h1 => ?_)
  · refine jo_posP h1 ?_
    refine jr_iconst C ic_m1 dX0_registerOf_29 ?_
    exact jr_end (fun h => hr (-1) h _ _ dX0_registerOf_30)
  refine jo_negP h1 ?_
  refine jr_lload_n C 0 rfl rfl dX0_registerOf_16 ?_
  refine jr_ldc2 C kl_X0_166 dX0_registerOf_17 ?_
  refine jr_lcmp C dX0_registerOf_20 ?_
  refine jr_if_ge C (tgt := 29) dX0_registerOf_21 (by decide) (fun h2 => ?_) (fun h2 => ?_)
  · refine jo_posP h2 ?_
    refine jr_iconst C ic_m1 dX0_registerOf_29 ?_
    exact jr_end (fun h => hr (-1) h _ _ dX0_registerOf_30)
  refine jo_negP h2 ?_
  refine jr_lload_n C 0 rfl rfl dX0_registerOf_24 ?_
  refine jr_l2i C dX0_registerOf_25 ?_
  refine jr_goto C (tgt := 30) dX0_registerOf_26 (by decide) ?_
  exact jr_end (fun h => hr ((((v0 - 29184) - 48) : Int64).toInt32) h _ _ dX0_registerOf_30)
set_option maxRecDepth 100000 in
theorem c_As_registerOf (l : Launch)  (v0 : Int64) (s : St) : CT SC l yX0_registerOf cX0_registerOf 4 (some .int) 0 0 (fun a => [.long v0]) s s (fun _ => some (.int (f_As_registerOf v0))) :=
  ct_I okX_C (by decide) (fun _ => Nat.le_of_ble_eq_true rfl) (fun G hl hR hL C hr => t_As_registerOf G hR hL C (Acc := fun v => v = (f_As_registerOf v0))  v0 s (fun v hv => by rw [hv]; exact hr) ⟨_, rfl, rfl⟩)
noncomputable def f_As_instruction_L2 (v1 : Int64) (v3 : Int32) (s : St) : Option (Int32 ⊕ (Int32 ⊕ Int32)) :=
  if 51 ≤ v3 then
  some (.inr (.inl v3))
  else
  gd v3 51 <|
  if (lg_cmp (s.2.1 4 (v3 : Int32).toNatClampNeg) v1) = 0 then
  some (.inr (.inr v3))
  else
  some (.inl (v3 + 1))
set_option maxHeartbeats 4000000 in
set_option maxRecDepth 100000 in
theorem t_As_instruction_L2 (G : GG) (hR : gR G = rmx 0 0) (hL : gL G = 4) (C : Cx SC G cX0_instruction RX0) {Acc : (Int32 ⊕ (Int32 ⊕ Int32)) → Prop}  (v1 : Int64) (v3 : Int32) (s : St) (hb1 : ∀ (a3 : Int32), Acc (.inl a3) → KK SC G 2 [(0, .ref (ad G 2)), (1, .long v1), (3, .int a3)] [] s) (hx1 : ∀ (a3 : Int32), Acc (.inr (.inl a3)) → KK SC G 27 [(0, .ref (ad G 2)), (1, .long v1), (3, .int a3)] [] s) (hr : ∀ v : Int32, Acc (.inr (.inr v)) → RtI SC G cX0_instruction v s) : JJ SC G Acc (f_As_instruction_L2 v1 v3 s) 2 [(0, .ref (ad G 2)), (1, .long v1), (3, .int v3)] [] s := by
  unfold f_As_instruction_L2
  refine jr_iload_n C 2 rfl rfl dX0_instruction_2 ?_
  refine jr_bipush C bp_51 dX0_instruction_3 ?_
  refine jr_icmp_ge C (tgt := 27) dX0_instruction_5 (by decide) (fun h1 => ?_) (fun h1 => ?_)
  · refine jo_pos h1 ?_
    exact jr_end (fun h => hx1 v3 h)
  refine jo_neg h1 ?_
  refine jr_aload_n C 0 rfl rfl dX0_instruction_8 ?_
  refine jr_getR C FX_0 1 oC_2.1 oC_2.2 ff_0_1.1 ff_0_1.2 rfl fl_X0_20 dX0_instruction_9 ?_
  refine jr_iload_n C 2 rfl rfl dX0_instruction_12 ?_
  refine jr_lald C oC_4.1 oC_4.2.1 oC_4.2.2 dX0_instruction_13 ?_
  refine jr_lload_n C 1 rfl rfl dX0_instruction_14 ?_
  refine jr_lcmp C dX0_instruction_15 ?_
  refine jr_if_ne C (tgt := 21) dX0_instruction_16 (by decide) (fun h2 => ?_) (fun h2 => ?_)
  · refine jo_neg h2 ?_
    refine jr_iinc C 2 rfl ii_1 (lv' := [(3, .int (v3 + 1)), (0, .ref (ad G 2)), (1, .long v1)]) (ltL hL rfl) rfl dX0_instruction_21 ?_
    refine jr_goto C (tgt := 2) dX0_instruction_24 (by decide) ?_
    refine jr_lv [1, 2, 0] rfl ?_
    exact jr_end (fun h => hb1 (v3 + 1) h)
  refine jo_pos h2 ?_
  refine jr_iload_n C 2 rfl rfl dX0_instruction_19 ?_
  exact jr_end (fun h => hr v3 h _ _ dX0_instruction_20)
noncomputable def f_As_instruction (v1 : Int64) (s : St) : Option Int32 :=
  (wh (fun a : Int32 => f_As_instruction_L2 v1 a s) 0).bind (Sum.elim (fun b3 =>
  some (-1)) some)
set_option maxHeartbeats 4000000 in
set_option maxRecDepth 100000 in
theorem t_As_instruction (G : GG) (hR : gR G = rmx 0 0) (hL : gL G = 4) (C : Cx SC G cX0_instruction RX0) {Acc : Int32 → Prop}  (v1 : Int64) (s : St) (hr : ∀ v : Int32, Acc v → RtI SC G cX0_instruction v s) : JJ SC G Acc (f_As_instruction v1 s) 0 [(0, .ref (ad G 2)), (1, .long v1)] [] s := by
  unfold f_As_instruction
  refine jr_iconst C ic_0 dX0_instruction_0 ?_
  refine jr_istore_n C (lv' := [(3, .int 0), (0, .ref (ad G 2)), (1, .long v1)]) (ltL hL rfl) rfl rfl dX0_instruction_1 ?_
  refine jr_lv [1, 2, 0] rfl ?_
  refine jr_loopE (pc := 2) (pcx := 27) (f := fun a : Int32 => f_As_instruction_L2 v1 a s) (fun a : Int32 => [(0, .ref (ad G 2)), (1, .long v1), (3, .int a)]) (fun a : Int32 => s) 0 (fun a => t_As_instruction_L2 G hR hL C  v1 a s (fun _ h => h) (fun _ h => h) hr) (fun b3 => ?_)
  refine jr_iconst C ic_m1 dX0_instruction_27 ?_
  exact jr_end (fun h => hr (-1) h _ _ dX0_instruction_28)
set_option maxRecDepth 100000 in
theorem c_As_instruction (l : Launch)  (v1 : Int64) (s : St) {q : Int32} (h : f_As_instruction v1 s = some q) : CT SC l yX0_instruction cX0_instruction 4 (some .int) 0 0 (fun a => [.ref (a 2), .long v1]) s s (fun _ => some (.int q)) :=
  ct_I okX_C (by decide) (fun _ => Nat.le_of_ble_eq_true rfl) (fun G hl hR hL C hr => t_As_instruction G hR hL C (Acc := fun v => v = q)  v1 s (fun v hv => by rw [hv]; exact hr) ⟨_, h, rfl⟩)
noncomputable def f_As_isLabel  (s : St) : Option Int32 :=
  if (s.1 3 3) = 1 then
  (if (f_As_registerOf (s.2.1 3 5)) = (-1) then
  ((f_As_instruction (s.2.1 3 5) s).bind fun q3 =>
  if q3 = (-1) then
  some 1
  else
  some 0)
  else
  some 0)
  else
  some 0
set_option maxHeartbeats 4000000 in
set_option maxRecDepth 100000 in
theorem t_As_isLabel (G : GG) (hR : gR G = rmx 1 23) (hL : gL G = 1) (C : Cx SC G cX0_isLabel RX0) {Acc : Int32 → Prop}   (s : St) (hr : ∀ v : Int32, Acc v → RtZ SC G cX0_isLabel v s) : JJ SC G Acc (f_As_isLabel s) 0 [(0, .ref (ad G 2))] [] s := by
  unfold f_As_isLabel
  refine jr_aload_n C 0 rfl rfl dX0_isLabel_0 ?_
  refine jr_getR C FX_0 0 oC_2.1 oC_2.2 ff_0_0.1 ff_0_0.2 rfl fl_X0_12 dX0_isLabel_1 ?_
  refine jr_getI C FX_8 3 oC_3.1 oC_3.2 ff_8_3.1 ff_8_3.2 fl_X0_100 dX0_isLabel_4 ?_
  refine jr_iconst C ic_1 dX0_isLabel_7 ?_
  refine jr_icmp_ne C (tgt := 44) dX0_isLabel_8 (by decide) (fun h1 => ?_) (fun h1 => ?_)
  · refine jo_neg h1 ?_
    refine jr_iconst C ic_0 dX0_isLabel_44 ?_
    exact jr_end (fun h => hr 0 h _ _ _ bN0 dX0_isLabel_45)
  refine jo_pos h1 ?_
  refine jr_aload_n C 0 rfl rfl dX0_isLabel_11 ?_
  refine jr_getR C FX_0 0 oC_2.1 oC_2.2 ff_0_0.1 ff_0_0.2 rfl fl_X0_12 dX0_isLabel_12 ?_
  refine jr_getJ C FX_8 5 oC_3.1 oC_3.2 ff_8_5.1 ff_8_5.2 fl_X0_115 dX0_isLabel_15 ?_
  refine jr_callSI C km_X0_151 (rk hR rfl) (c_As_registerOf (gl G) (s.2.1 3 5) s) rfl rfl rfl (Nat.le_of_ble_eq_true rfl) dX0_isLabel_18 ?_
  refine jr_iconst C ic_m1 dX0_isLabel_21 ?_
  refine jr_icmp_ne C (tgt := 44) dX0_isLabel_22 (by decide) (fun h2 => ?_) (fun h2 => ?_)
  · refine jo_neg h2 ?_
    refine jr_iconst C ic_0 dX0_isLabel_44 ?_
    exact jr_end (fun h => hr 0 h _ _ _ bN0 dX0_isLabel_45)
  refine jo_pos h2 ?_
  refine jr_aload_n C 0 rfl rfl dX0_isLabel_25 ?_
  refine jr_aload_n C 0 rfl rfl dX0_isLabel_26 ?_
  refine jr_getR C FX_0 0 oC_2.1 oC_2.2 ff_0_0.1 ff_0_0.2 rfl fl_X0_12 dX0_isLabel_27 ?_
  refine jr_getJ C FX_8 5 oC_3.1 oC_3.2 ff_8_5.1 ff_8_5.2 fl_X0_115 dX0_isLabel_30 ?_
  refine jr_bind (fun q3 e4 => ?_)
  refine jr_callVI C FX_0 km_X0_119 oC_2.1 oC_2.2 (rk hR rfl) (c_As_instruction (gl G) (s.2.1 3 5) s e4) rfl rfl rfl (Nat.le_of_ble_eq_true rfl) dX0_isLabel_33 ?_
  refine jr_iconst C ic_m1 dX0_isLabel_36 ?_
  refine jr_icmp_ne C (tgt := 44) dX0_isLabel_37 (by decide) (fun h5 => ?_) (fun h5 => ?_)
  · refine jo_neg h5 ?_
    refine jr_iconst C ic_0 dX0_isLabel_44 ?_
    exact jr_end (fun h => hr 0 h _ _ _ bN0 dX0_isLabel_45)
  refine jo_pos h5 ?_
  refine jr_iconst C ic_1 dX0_isLabel_40 ?_
  refine jr_goto C (tgt := 45) dX0_isLabel_41 (by decide) ?_
  exact jr_end (fun h => hr 1 h _ _ _ bN1 dX0_isLabel_45)
set_option maxRecDepth 100000 in
theorem c_As_isLabel (l : Launch)   (s : St) {q : Int32} (h : f_As_isLabel s = some q) : CT SC l yX0_isLabel cX0_isLabel 1 (some .boolean) 1 23 (fun a => [.ref (a 2)]) s s (fun _ => some (.int q)) :=
  ct_Z okX_C (by decide) (fun _ => Nat.le_of_ble_eq_true rfl) (fun G hl hR hL C hr => t_As_isLabel G hR hL C (Acc := fun v => v = q)   s (fun v hv => by rw [hv]; exact hr) ⟨_, h, rfl⟩)
noncomputable def f_As_refusePiece_J17 (w0 : Int32) (s : St) : Option (Int32 × St) :=
  (f_As_refuse w0 (s.1 3 4) (s.1 2 8) s).bind fun q2 =>
  some (0, q2)
set_option maxHeartbeats 4000000 in
set_option maxRecDepth 100000 in
theorem t_As_refusePiece_J17 (G : GG) (hR : gR G = rmx 1 23) (hL : gL G = 1) (C : Cx SC G cX0_refusePiece RX0) {Acc : (Int32 × St) → Prop}  (w0 : Int32) (s : St) (hr : ∀ v : (Int32 × St), Acc v → RtZ SC G cX0_refusePiece v.1 v.2) : JJ SC G Acc (f_As_refusePiece_J17 w0 s) 17 [(0, .ref (ad G 2))] [.int w0, .ref (ad G 2)] s := by
  unfold f_As_refusePiece_J17
  refine jr_aload_n C 0 rfl rfl dX0_refusePiece_17 ?_
  refine jr_getR C FX_0 0 oC_2.1 oC_2.2 ff_0_0.1 ff_0_0.2 rfl fl_X0_12 dX0_refusePiece_18 ?_
  refine jr_getI C FX_8 4 oC_3.1 oC_3.2 ff_8_4.1 ff_8_4.2 fl_X0_103 dX0_refusePiece_21 ?_
  refine jr_aload_n C 0 rfl rfl dX0_refusePiece_24 ?_
  refine jr_getI C FX_0 8 oC_2.1 oC_2.2 ff_0_8.1 ff_0_8.2 fl_X0_67 dX0_refusePiece_25 ?_
  refine jr_bind (fun q2 e3 => ?_)
  refine jr_callVV C FX_0 km_X0_96 oC_2.1 oC_2.2 (rk hR rfl) (c_As_refuse (gl G) w0 (s.1 3 4) (s.1 2 8) s e3) rfl rfl rfl (Nat.le_of_ble_eq_true rfl) dX0_refusePiece_28 ?_
  refine jr_iconst C ic_0 dX0_refusePiece_31 ?_
  exact jr_end (fun h => hr (0, q2) h _ _ _ bN0 dX0_refusePiece_32)
noncomputable def f_As_refusePiece  (s : St) : Option (Int32 × St) :=
  if (s.1 3 3) = 5 then
  f_As_refusePiece_J17 1 s
  else
  f_As_refusePiece_J17 2 s
set_option maxHeartbeats 4000000 in
set_option maxRecDepth 100000 in
theorem t_As_refusePiece (G : GG) (hR : gR G = rmx 1 23) (hL : gL G = 1) (C : Cx SC G cX0_refusePiece RX0) {Acc : (Int32 × St) → Prop}   (s : St) (hr : ∀ v : (Int32 × St), Acc v → RtZ SC G cX0_refusePiece v.1 v.2) : JJ SC G Acc (f_As_refusePiece s) 0 [(0, .ref (ad G 2))] [] s := by
  unfold f_As_refusePiece
  refine jr_aload_n C 0 rfl rfl dX0_refusePiece_0 ?_
  refine jr_aload_n C 0 rfl rfl dX0_refusePiece_1 ?_
  refine jr_getR C FX_0 0 oC_2.1 oC_2.2 ff_0_0.1 ff_0_0.2 rfl fl_X0_12 dX0_refusePiece_2 ?_
  refine jr_getI C FX_8 3 oC_3.1 oC_3.2 ff_8_3.1 ff_8_3.2 fl_X0_100 dX0_refusePiece_5 ?_
  refine jr_iconst C ic_5 dX0_refusePiece_8 ?_
  refine jr_icmp_ne C (tgt := 16) dX0_refusePiece_9 (by decide) (fun h1 => ?_) (fun h1 => ?_)
  · refine jo_neg h1 ?_
    refine jr_iconst C ic_2 dX0_refusePiece_16 ?_
    exact t_As_refusePiece_J17 G hR hL C  2 s hr
  refine jo_pos h1 ?_
  refine jr_iconst C ic_1 dX0_refusePiece_12 ?_
  refine jr_goto C (tgt := 17) dX0_refusePiece_13 (by decide) ?_
  exact t_As_refusePiece_J17 G hR hL C  1 s hr
set_option maxRecDepth 100000 in
theorem c_As_refusePiece (l : Launch)   (s : St) {q : (Int32 × St)} (h : f_As_refusePiece s = some q) : CT SC l yX0_refusePiece cX0_refusePiece 1 (some .boolean) 1 23 (fun a => [.ref (a 2)]) s q.2 (fun _ => some (.int q.1)) :=
  ct_Z okX_C (by decide) (fun _ => Nat.le_of_ble_eq_true rfl) (fun G hl hR hL C hr => t_As_refusePiece G hR hL C (Acc := fun v => v = q)   s (fun v hv => by rw [hv]; exact hr) ⟨_, h, rfl⟩)
noncomputable def f_As_findLabel_L2 (v1 : Int64) (v3 : Int32) (s : St) : Option (Int32 ⊕ (Int32 ⊕ Int32)) :=
  if (s.1 2 4) ≤ v3 then
  some (.inr (.inl v3))
  else
  gd v3 200 <|
  if (lg_cmp (s.2.1 5 (v3 : Int32).toNatClampNeg) v1) = 0 then
  some (.inr (.inr v3))
  else
  some (.inl (v3 + 1))
set_option maxHeartbeats 4000000 in
set_option maxRecDepth 100000 in
theorem t_As_findLabel_L2 (G : GG) (hR : gR G = rmx 0 0) (hL : gL G = 4) (C : Cx SC G cX0_findLabel RX0) {Acc : (Int32 ⊕ (Int32 ⊕ Int32)) → Prop}  (v1 : Int64) (v3 : Int32) (s : St) (hb1 : ∀ (a3 : Int32), Acc (.inl a3) → KK SC G 2 [(0, .ref (ad G 2)), (1, .long v1), (3, .int a3)] [] s) (hx1 : ∀ (a3 : Int32), Acc (.inr (.inl a3)) → KK SC G 29 [(0, .ref (ad G 2)), (1, .long v1), (3, .int a3)] [] s) (hr : ∀ v : Int32, Acc (.inr (.inr v)) → RtI SC G cX0_findLabel v s) : JJ SC G Acc (f_As_findLabel_L2 v1 v3 s) 2 [(0, .ref (ad G 2)), (1, .long v1), (3, .int v3)] [] s := by
  unfold f_As_findLabel_L2
  refine jr_iload_n C 2 rfl rfl dX0_findLabel_2 ?_
  refine jr_aload_n C 0 rfl rfl dX0_findLabel_3 ?_
  refine jr_getI C FX_0 4 oC_2.1 oC_2.2 ff_0_4.1 ff_0_4.2 fl_X0_64 dX0_findLabel_4 ?_
  refine jr_icmp_ge C (tgt := 29) dX0_findLabel_7 (by decide) (fun h1 => ?_) (fun h1 => ?_)
  · refine jo_pos h1 ?_
    exact jr_end (fun h => hx1 v3 h)
  refine jo_neg h1 ?_
  refine jr_aload_n C 0 rfl rfl dX0_findLabel_10 ?_
  refine jr_getR C FX_0 2 oC_2.1 oC_2.2 ff_0_2.1 ff_0_2.2 rfl fl_X0_24 dX0_findLabel_11 ?_
  refine jr_iload_n C 2 rfl rfl dX0_findLabel_14 ?_
  refine jr_lald C oC_5.1 oC_5.2.1 oC_5.2.2 dX0_findLabel_15 ?_
  refine jr_lload_n C 1 rfl rfl dX0_findLabel_16 ?_
  refine jr_lcmp C dX0_findLabel_17 ?_
  refine jr_if_ne C (tgt := 23) dX0_findLabel_18 (by decide) (fun h2 => ?_) (fun h2 => ?_)
  · refine jo_neg h2 ?_
    refine jr_iinc C 2 rfl ii_1 (lv' := [(3, .int (v3 + 1)), (0, .ref (ad G 2)), (1, .long v1)]) (ltL hL rfl) rfl dX0_findLabel_23 ?_
    refine jr_goto C (tgt := 2) dX0_findLabel_26 (by decide) ?_
    refine jr_lv [1, 2, 0] rfl ?_
    exact jr_end (fun h => hb1 (v3 + 1) h)
  refine jo_pos h2 ?_
  refine jr_iload_n C 2 rfl rfl dX0_findLabel_21 ?_
  exact jr_end (fun h => hr v3 h _ _ dX0_findLabel_22)
noncomputable def f_As_findLabel (v1 : Int64) (s : St) : Option Int32 :=
  (wh (fun a : Int32 => f_As_findLabel_L2 v1 a s) 0).bind (Sum.elim (fun b3 =>
  some (-1)) some)
set_option maxHeartbeats 4000000 in
set_option maxRecDepth 100000 in
theorem t_As_findLabel (G : GG) (hR : gR G = rmx 0 0) (hL : gL G = 4) (C : Cx SC G cX0_findLabel RX0) {Acc : Int32 → Prop}  (v1 : Int64) (s : St) (hr : ∀ v : Int32, Acc v → RtI SC G cX0_findLabel v s) : JJ SC G Acc (f_As_findLabel v1 s) 0 [(0, .ref (ad G 2)), (1, .long v1)] [] s := by
  unfold f_As_findLabel
  refine jr_iconst C ic_0 dX0_findLabel_0 ?_
  refine jr_istore_n C (lv' := [(3, .int 0), (0, .ref (ad G 2)), (1, .long v1)]) (ltL hL rfl) rfl rfl dX0_findLabel_1 ?_
  refine jr_lv [1, 2, 0] rfl ?_
  refine jr_loopE (pc := 2) (pcx := 29) (f := fun a : Int32 => f_As_findLabel_L2 v1 a s) (fun a : Int32 => [(0, .ref (ad G 2)), (1, .long v1), (3, .int a)]) (fun a : Int32 => s) 0 (fun a => t_As_findLabel_L2 G hR hL C  v1 a s (fun _ h => h) (fun _ h => h) hr) (fun b3 => ?_)
  refine jr_iconst C ic_m1 dX0_findLabel_29 ?_
  exact jr_end (fun h => hr (-1) h _ _ dX0_findLabel_30)
set_option maxRecDepth 100000 in
theorem c_As_findLabel (l : Launch)  (v1 : Int64) (s : St) {q : Int32} (h : f_As_findLabel v1 s = some q) : CT SC l yX0_findLabel cX0_findLabel 4 (some .int) 0 0 (fun a => [.ref (a 2), .long v1]) s s (fun _ => some (.int q)) :=
  ct_I okX_C (by decide) (fun _ => Nat.le_of_ble_eq_true rfl) (fun G hl hR hL C hr => t_As_findLabel G hR hL C (Acc := fun v => v = q)  v1 s (fun v hv => by rw [hv]; exact hr) ⟨_, h, rfl⟩)
noncomputable def f_As_readLabel  (s : St) : Option (Int32 × St) :=
  lt (s.2.1 3 5) fun x1 =>
  lt (s.1 3 4) fun x2 =>
  (f_Sc_readPiece s).bind fun q3 =>
  if (q3.1 3 3) = 4 then
  ((f_As_findLabel x1 q3).bind fun q6 =>
  if q6 = (-1) then
  (if 200 ≤ (q3.1 2 4) then
  some (1, q3)
  else
  gd (q3.1 2 4) 200 <|
  lt (uJ q3 5 ((q3.1 2 4) : Int32).toNatClampNeg x1) fun s10 =>
  gP (s10.2.2 2) fun p11 =>
  gd (s10.1 2 4) 200 <|
  lt (uI s10 6 ((s10.1 2 4) : Int32).toNatClampNeg (s10.1 p11 3)) fun s13 =>
  lt (uI s13 2 4 ((s13.1 2 4) + 1)) fun s14 =>
  some (1, s14))
  else
  (f_As_refuse 3 x2 (q3.1 2 8) q3).bind fun q15 =>
  some (0, q15))
  else
  (f_As_refusePiece q3).bind fun q17 =>
  some ((bN (q17.1)), q17.2)
set_option maxHeartbeats 4000000 in
set_option maxRecDepth 100000 in
theorem t_As_readLabel (G : GG) (hR : gR G = rmx 4 90) (hL : gL G = 4) (C : Cx SC G cX0_readLabel RX0) {Acc : (Int32 × St) → Prop}   (s : St) (hr : ∀ v : (Int32 × St), Acc v → RtZ SC G cX0_readLabel v.1 v.2) : JJ SC G Acc (f_As_readLabel s) 0 [(0, .ref (ad G 2))] [] s := by
  unfold f_As_readLabel
  refine jr_aload_n C 0 rfl rfl dX0_readLabel_0 ?_
  refine jr_getR C FX_0 0 oC_2.1 oC_2.2 ff_0_0.1 ff_0_0.2 rfl fl_X0_12 dX0_readLabel_1 ?_
  refine jr_getJ C FX_8 5 oC_3.1 oC_3.2 ff_8_5.1 ff_8_5.2 fl_X0_115 dX0_readLabel_4 ?_
  refine jr_ltJ (fun x1 => ?_)
  refine jr_lstore_n C (lv' := [(1, .long x1), (0, .ref (ad G 2))]) (ltL hL rfl) rfl rfl dX0_readLabel_7 ?_
  refine jr_aload_n C 1 rfl rfl dX0_readLabel_8 ?_
  refine jr_getR C FX_0 0 oC_2.1 oC_2.2 ff_0_0.1 ff_0_0.2 rfl fl_X0_12 dX0_readLabel_9 ?_
  refine jr_getI C FX_8 4 oC_3.1 oC_3.2 ff_8_4.1 ff_8_4.2 fl_X0_103 dX0_readLabel_12 ?_
  refine jr_ltI (fun x2 => ?_)
  refine jr_istore_n C (lv' := [(3, .int x2), (1, .long x1), (0, .ref (ad G 2))]) (ltL hL rfl) rfl rfl dX0_readLabel_15 ?_
  refine jr_aload_n C 2 rfl rfl dX0_readLabel_16 ?_
  refine jr_getR C FX_0 0 oC_2.1 oC_2.2 ff_0_0.1 ff_0_0.2 rfl fl_X0_12 dX0_readLabel_17 ?_
  refine jr_bind (fun q3 e4 => ?_)
  refine jr_callVV C FX_8 km_X0_106 oC_3.1 oC_3.2 (rk hR rfl) (c_Sc_readPiece (gl G) s e4) rfl rfl rfl (Nat.le_of_ble_eq_true rfl) dX0_readLabel_20 ?_
  refine jr_aload_n C 2 rfl rfl dX0_readLabel_23 ?_
  refine jr_getR C FX_0 0 oC_2.1 oC_2.2 ff_0_0.1 ff_0_0.2 rfl fl_X0_12 dX0_readLabel_24 ?_
  refine jr_getI C FX_8 3 oC_3.1 oC_3.2 ff_8_3.1 ff_8_3.2 fl_X0_100 dX0_readLabel_27 ?_
  refine jr_iconst C ic_4 dX0_readLabel_30 ?_
  refine jr_icmp_eq C (tgt := 39) dX0_readLabel_31 (by decide) (fun h5 => ?_) (fun h5 => ?_)
  · refine jo_pos h5 ?_
    refine jr_aload_n C 2 rfl rfl dX0_readLabel_39 ?_
    refine jr_lload_n C 1 rfl rfl dX0_readLabel_40 ?_
    refine jr_bind (fun q6 e7 => ?_)
    refine jr_callVI C FX_0 km_X0_130 oC_2.1 oC_2.2 (rk hR rfl) (c_As_findLabel (gl G) x1 q3 e7) rfl rfl rfl (Nat.le_of_ble_eq_true rfl) dX0_readLabel_41 ?_
    refine jr_iconst C ic_m1 dX0_readLabel_44 ?_
    refine jr_icmp_eq C (tgt := 60) dX0_readLabel_45 (by decide) (fun h8 => ?_) (fun h8 => ?_)
    · refine jo_pos h8 ?_
      refine jr_aload_n C 2 rfl rfl dX0_readLabel_60 ?_
      refine jr_getI C FX_0 4 oC_2.1 oC_2.2 ff_0_4.1 ff_0_4.2 fl_X0_64 dX0_readLabel_61 ?_
      refine jr_sipush C sp_200 dX0_readLabel_64 ?_
      refine jr_icmp_ge C (tgt := 106) dX0_readLabel_67 (by decide) (fun h9 => ?_) (fun h9 => ?_)
      · refine jo_pos h9 ?_
        refine jr_iconst C ic_1 dX0_readLabel_106 ?_
        exact jr_end (fun h => hr (1, q3) h _ _ _ bN1 dX0_readLabel_107)
      refine jo_neg h9 ?_
      refine jr_aload_n C 2 rfl rfl dX0_readLabel_70 ?_
      refine jr_getR C FX_0 2 oC_2.1 oC_2.2 ff_0_2.1 ff_0_2.2 rfl fl_X0_24 dX0_readLabel_71 ?_
      refine jr_aload_n C 2 rfl rfl dX0_readLabel_74 ?_
      refine jr_getI C FX_0 4 oC_2.1 oC_2.2 ff_0_4.1 ff_0_4.2 fl_X0_64 dX0_readLabel_75 ?_
      refine jr_lload_n C 1 rfl rfl dX0_readLabel_78 ?_
      refine jr_last C oC_5.1 oC_5.2.1 oC_5.2.2 dX0_readLabel_79 (jr_ltS fun s10 => ?_)
      refine jr_aload_n C 2 rfl rfl dX0_readLabel_80 ?_
      refine jr_getR C FX_0 3 oC_2.1 oC_2.2 ff_0_3.1 ff_0_3.2 rfl fl_X0_27 dX0_readLabel_81 ?_
      refine jr_aload_n C 2 rfl rfl dX0_readLabel_84 ?_
      refine jr_getI C FX_0 4 oC_2.1 oC_2.2 ff_0_4.1 ff_0_4.2 fl_X0_64 dX0_readLabel_85 ?_
      refine jr_aload_n C 2 rfl rfl dX0_readLabel_88 ?_
      refine jr_getP C FX_0 9 oC_2.1 oC_2.2 ff_0_9.1 ff_0_9.2 (fun hp => rX_p rfl (pne hp)) fl_X0_70 dX0_readLabel_89 (fun p11 h12 => ?_)
      refine jr_getI C FX_7 3 (oP_0 h12).1 (oP_0 h12).2 ff_7_3.1 ff_7_3.2 fl_X0_133 dX0_readLabel_92 ?_
      refine jr_iast C oC_6.1 oC_6.2.1 oC_6.2.2 dX0_readLabel_95 (jr_ltS fun s13 => ?_)
      refine jr_aload_n C 2 rfl rfl dX0_readLabel_96 ?_
      refine jr_dup C rfl dX0_readLabel_97 ?_
      refine jr_getI C FX_0 4 oC_2.1 oC_2.2 ff_0_4.1 ff_0_4.2 fl_X0_64 dX0_readLabel_98 ?_
      refine jr_iconst C ic_1 dX0_readLabel_101 ?_
      refine jr_iadd C dX0_readLabel_102 ?_
      refine jr_putI C FX_0 4 oC_2.1 oC_2.2 ff_0_4.1 ff_0_4.2 rfl rfl fl_X0_64 dX0_readLabel_103 (jr_ltS fun s14 => ?_)
      refine jr_iconst C ic_1 dX0_readLabel_106 ?_
      exact jr_end (fun h => hr (1, s14) h _ _ _ bN1 dX0_readLabel_107)
    refine jo_neg h8 ?_
    refine jr_aload_n C 2 rfl rfl dX0_readLabel_48 ?_
    refine jr_iconst C ic_3 dX0_readLabel_49 ?_
    refine jr_iload_n C 0 rfl rfl dX0_readLabel_50 ?_
    refine jr_aload_n C 2 rfl rfl dX0_readLabel_51 ?_
    refine jr_getI C FX_0 8 oC_2.1 oC_2.2 ff_0_8.1 ff_0_8.2 fl_X0_67 dX0_readLabel_52 ?_
    refine jr_bind (fun q15 e16 => ?_)
    refine jr_callVV C FX_0 km_X0_96 oC_2.1 oC_2.2 (rk hR rfl) (c_As_refuse (gl G) 3 x2 (q3.1 2 8) q3 e16) rfl rfl rfl (Nat.le_of_ble_eq_true rfl) dX0_readLabel_55 ?_
    refine jr_iconst C ic_0 dX0_readLabel_58 ?_
    exact jr_end (fun h => hr (0, q15) h _ _ _ bN0 dX0_readLabel_59)
  refine jo_neg h5 ?_
  refine jr_aload_n C 2 rfl rfl dX0_readLabel_34 ?_
  refine jr_bind (fun q17 e18 => ?_)
  refine jr_callVI C FX_0 km_X0_123 oC_2.1 oC_2.2 (rk hR rfl) (c_As_refusePiece (gl G) q3 e18) rfl rfl rfl (Nat.le_of_ble_eq_true rfl) dX0_readLabel_35 ?_
  exact jr_end (fun h => hr ((bN (q17.1)), q17.2) h _ _ _ rfl dX0_readLabel_38)
set_option maxRecDepth 100000 in
theorem c_As_readLabel (l : Launch)   (s : St) {q : (Int32 × St)} (h : f_As_readLabel s = some q) : CT SC l yX0_readLabel cX0_readLabel 4 (some .boolean) 4 90 (fun a => [.ref (a 2)]) s q.2 (fun _ => some (.int q.1)) :=
  ct_Z okX_C (by decide) (fun _ => Nat.le_of_ble_eq_true rfl) (fun G hl hR hL C hr => t_As_readLabel G hR hL C (Acc := fun v => v = q)   s (fun v hv => by rw [hv]; exact hr) ⟨_, h, rfl⟩)
noncomputable def f_Op_shapeOfOther (v0 : Int32) : Nat :=
  if v0 = 35 then
  206
  else if v0 = 36 then
  206
  else if v0 = 37 then
  207
  else if v0 = 38 then
  207
  else if v0 = 39 then
  210
  else if v0 = 40 then
  210
  else if v0 = 41 then
  208
  else if v0 = 42 then
  208
  else if v0 = 43 then
  203
  else if v0 = 44 then
  210
  else if v0 = 45 then
  203
  else if v0 = 46 then
  203
  else if v0 = 47 then
  210
  else if v0 = 48 then
  210
  else if v0 = 49 then
  209
  else if v0 = 50 then
  203
  else 210
set_option maxHeartbeats 4000000 in
set_option maxRecDepth 100000 in
theorem t_Op_shapeOfOther (G : GG) (hR : gR G = rmx 0 0) (hL : gL G = 1) (C : Cx SC G cX7_shapeOfOther RX7) {Acc : Nat → Prop}  (v0 : Int32) (s : St) (hr : ∀ v : Nat, Acc v → RtA SC G cX7_shapeOfOther v s) : JJ SC G Acc (some (f_Op_shapeOfOther v0)) 0 [(0, .int v0)] [] s := by
  unfold f_Op_shapeOfOther
  refine jr_iload_n C 0 rfl rfl dX7_shapeOfOther_0 ?_
  refine jo_casesP (fun h1 => ?_) (fun h1 => ?_)
  · refine jr_tabIn C dX7_shapeOfOther_1 h1 (by decide) (by decide) rfl (tgt := 80) (by decide) ?_
    refine jr_ldcT C 6 rfl rfl (by decide) dX7_shapeOfOther_80 ?_
    exact jr_end (fun h => hr 206 h _ _ dX7_shapeOfOther_82)
  refine jo_casesP (fun h2 => ?_) (fun h2 => ?_)
  · refine jr_tabIn C dX7_shapeOfOther_1 h2 (by decide) (by decide) rfl (tgt := 80) (by decide) ?_
    refine jr_ldcT C 6 rfl rfl (by decide) dX7_shapeOfOther_80 ?_
    exact jr_end (fun h => hr 206 h _ _ dX7_shapeOfOther_82)
  refine jo_casesP (fun h3 => ?_) (fun h3 => ?_)
  · refine jr_tabIn C dX7_shapeOfOther_1 h3 (by decide) (by decide) rfl (tgt := 83) (by decide) ?_
    refine jr_ldcT C 7 rfl rfl (by decide) dX7_shapeOfOther_83 ?_
    exact jr_end (fun h => hr 207 h _ _ dX7_shapeOfOther_85)
  refine jo_casesP (fun h4 => ?_) (fun h4 => ?_)
  · refine jr_tabIn C dX7_shapeOfOther_1 h4 (by decide) (by decide) rfl (tgt := 83) (by decide) ?_
    refine jr_ldcT C 7 rfl rfl (by decide) dX7_shapeOfOther_83 ?_
    exact jr_end (fun h => hr 207 h _ _ dX7_shapeOfOther_85)
  refine jo_casesP (fun h5 => ?_) (fun h5 => ?_)
  · refine jr_tabIn C dX7_shapeOfOther_1 h5 (by decide) (by decide) rfl (tgt := 95) (by decide) ?_
    refine jr_ldcT C 10 rfl rfl (by decide) dX7_shapeOfOther_95 ?_
    exact jr_end (fun h => hr 210 h _ _ dX7_shapeOfOther_97)
  refine jo_casesP (fun h6 => ?_) (fun h6 => ?_)
  · refine jr_tabIn C dX7_shapeOfOther_1 h6 (by decide) (by decide) rfl (tgt := 95) (by decide) ?_
    refine jr_ldcT C 10 rfl rfl (by decide) dX7_shapeOfOther_95 ?_
    exact jr_end (fun h => hr 210 h _ _ dX7_shapeOfOther_97)
  refine jo_casesP (fun h7 => ?_) (fun h7 => ?_)
  · refine jr_tabIn C dX7_shapeOfOther_1 h7 (by decide) (by decide) rfl (tgt := 86) (by decide) ?_
    refine jr_ldcT C 8 rfl rfl (by decide) dX7_shapeOfOther_86 ?_
    exact jr_end (fun h => hr 208 h _ _ dX7_shapeOfOther_88)
  refine jo_casesP (fun h8 => ?_) (fun h8 => ?_)
  · refine jr_tabIn C dX7_shapeOfOther_1 h8 (by decide) (by decide) rfl (tgt := 86) (by decide) ?_
    refine jr_ldcT C 8 rfl rfl (by decide) dX7_shapeOfOther_86 ?_
    exact jr_end (fun h => hr 208 h _ _ dX7_shapeOfOther_88)
  refine jo_casesP (fun h9 => ?_) (fun h9 => ?_)
  · refine jr_tabIn C dX7_shapeOfOther_1 h9 (by decide) (by decide) rfl (tgt := 89) (by decide) ?_
    refine jr_ldcT C 3 rfl rfl (by decide) dX7_shapeOfOther_89 ?_
    exact jr_end (fun h => hr 203 h _ _ dX7_shapeOfOther_91)
  refine jo_casesP (fun h10 => ?_) (fun h10 => ?_)
  · refine jr_tabIn C dX7_shapeOfOther_1 h10 (by decide) (by decide) rfl (tgt := 95) (by decide) ?_
    refine jr_ldcT C 10 rfl rfl (by decide) dX7_shapeOfOther_95 ?_
    exact jr_end (fun h => hr 210 h _ _ dX7_shapeOfOther_97)
  refine jo_casesP (fun h11 => ?_) (fun h11 => ?_)
  · refine jr_tabIn C dX7_shapeOfOther_1 h11 (by decide) (by decide) rfl (tgt := 89) (by decide) ?_
    refine jr_ldcT C 3 rfl rfl (by decide) dX7_shapeOfOther_89 ?_
    exact jr_end (fun h => hr 203 h _ _ dX7_shapeOfOther_91)
  refine jo_casesP (fun h12 => ?_) (fun h12 => ?_)
  · refine jr_tabIn C dX7_shapeOfOther_1 h12 (by decide) (by decide) rfl (tgt := 89) (by decide) ?_
    refine jr_ldcT C 3 rfl rfl (by decide) dX7_shapeOfOther_89 ?_
    exact jr_end (fun h => hr 203 h _ _ dX7_shapeOfOther_91)
  refine jo_casesP (fun h13 => ?_) (fun h13 => ?_)
  · refine jr_tabIn C dX7_shapeOfOther_1 h13 (by decide) (by decide) rfl (tgt := 95) (by decide) ?_
    refine jr_ldcT C 10 rfl rfl (by decide) dX7_shapeOfOther_95 ?_
    exact jr_end (fun h => hr 210 h _ _ dX7_shapeOfOther_97)
  refine jo_casesP (fun h14 => ?_) (fun h14 => ?_)
  · refine jr_tabIn C dX7_shapeOfOther_1 h14 (by decide) (by decide) rfl (tgt := 95) (by decide) ?_
    refine jr_ldcT C 10 rfl rfl (by decide) dX7_shapeOfOther_95 ?_
    exact jr_end (fun h => hr 210 h _ _ dX7_shapeOfOther_97)
  refine jo_casesP (fun h15 => ?_) (fun h15 => ?_)
  · refine jr_tabIn C dX7_shapeOfOther_1 h15 (by decide) (by decide) rfl (tgt := 92) (by decide) ?_
    refine jr_ldcT C 9 rfl rfl (by decide) dX7_shapeOfOther_92 ?_
    exact jr_end (fun h => hr 209 h _ _ dX7_shapeOfOther_94)
  refine jo_casesP (fun h16 => ?_) (fun h16 => ?_)
  · refine jr_tabIn C dX7_shapeOfOther_1 h16 (by decide) (by decide) rfl (tgt := 89) (by decide) ?_
    refine jr_ldcT C 3 rfl rfl (by decide) dX7_shapeOfOther_89 ?_
    exact jr_end (fun h => hr 203 h _ _ dX7_shapeOfOther_91)
  refine jr_tabOut C dX7_shapeOfOther_1 (by have e0 := lv_neT h1 (a := 35) (by decide); have e1 := lv_neT h2 (a := 36) (by decide); have e2 := lv_neT h3 (a := 37) (by decide); have e3 := lv_neT h4 (a := 38) (by decide); have e4 := lv_neT h5 (a := 39) (by decide); have e5 := lv_neT h6 (a := 40) (by decide); have e6 := lv_neT h7 (a := 41) (by decide); have e7 := lv_neT h8 (a := 42) (by decide); have e8 := lv_neT h9 (a := 43) (by decide); have e9 := lv_neT h10 (a := 44) (by decide); have e10 := lv_neT h11 (a := 45) (by decide); have e11 := lv_neT h12 (a := 46) (by decide); have e12 := lv_neT h13 (a := 47) (by decide); have e13 := lv_neT h14 (a := 48) (by decide); have e14 := lv_neT h15 (a := 49) (by decide); have e15 := lv_neT h16 (a := 50) (by decide); omega) (tgt := 95) (by decide) ?_
  refine jr_ldcT C 10 rfl rfl (by decide) dX7_shapeOfOther_95 ?_
  exact jr_end (fun h => hr 210 h _ _ dX7_shapeOfOther_97)
set_option maxRecDepth 100000 in
theorem c_Op_shapeOfOther (l : Launch)  (v0 : Int32) (s : St) : CT SC l yX7_shapeOfOther cX7_shapeOfOther 1 (some (.object "java/lang/String")) 0 0 (fun a => [.int v0]) s s (fun a => some (.ref (a (f_Op_shapeOfOther v0)))) :=
  ct_A okX_C (by decide) (fun _ => Nat.le_of_ble_eq_true rfl) (fun G hl hR hL C hr => t_Op_shapeOfOther G hR hL C (Acc := fun v => v = (f_Op_shapeOfOther v0))  v0 s (fun v hv => by rw [hv]; exact hr) ⟨_, rfl, rfl⟩)
noncomputable def f_Op_shapeOf (v0 : Int32) : Nat :=
  if v0 = 0 then
  201
  else
  if v0 ≤ 3 then
  202
  else
  if v0 = 19 then
  202
  else
  if v0 = 20 then
  202
  else
  if 18 < v0 then
  (if 28 < v0 then
  (if 34 < v0 then
  (f_Op_shapeOfOther v0)
  else
  205)
  else
  204)
  else
  203
set_option maxHeartbeats 4000000 in
set_option maxRecDepth 100000 in
theorem t_Op_shapeOf (G : GG) (hR : gR G = rmx 1 20) (hL : gL G = 1) (C : Cx SC G cX7_shapeOf RX7) {Acc : Nat → Prop}  (v0 : Int32) (s : St) (hr : ∀ v : Nat, Acc v → RtA SC G cX7_shapeOf v s) : JJ SC G Acc (some (f_Op_shapeOf v0)) 0 [(0, .int v0)] [] s := by
  unfold f_Op_shapeOf
  refine jr_iload_n C 0 rfl rfl dX7_shapeOf_0 ?_
  refine jr_if_ne C (tgt := 7) dX7_shapeOf_1 (by decide) (fun h1 => ?_) (fun h1 => ?_)
  · refine jo_negP h1 ?_
    refine jr_iload_n C 0 rfl rfl dX7_shapeOf_7 ?_
    refine jr_iconst C ic_3 dX7_shapeOf_8 ?_
    refine jr_icmp_le C (tgt := 24) dX7_shapeOf_9 (by decide) (fun h2 => ?_) (fun h2 => ?_)
    · refine jo_posP h2 ?_
      refine jr_ldcT C 2 rfl rfl (by decide) dX7_shapeOf_24 ?_
      exact jr_end (fun h => hr 202 h _ _ dX7_shapeOf_26)
    refine jo_negP h2 ?_
    refine jr_iload_n C 0 rfl rfl dX7_shapeOf_12 ?_
    refine jr_bipush C bp_19 dX7_shapeOf_13 ?_
    refine jr_icmp_eq C (tgt := 24) dX7_shapeOf_15 (by decide) (fun h3 => ?_) (fun h3 => ?_)
    · refine jo_posP h3 ?_
      refine jr_ldcT C 2 rfl rfl (by decide) dX7_shapeOf_24 ?_
      exact jr_end (fun h => hr 202 h _ _ dX7_shapeOf_26)
    refine jo_negP h3 ?_
    refine jr_iload_n C 0 rfl rfl dX7_shapeOf_18 ?_
    refine jr_bipush C bp_20 dX7_shapeOf_19 ?_
    refine jr_icmp_ne C (tgt := 27) dX7_shapeOf_21 (by decide) (fun h4 => ?_) (fun h4 => ?_)
    · refine jo_negP h4 ?_
      refine jr_iload_n C 0 rfl rfl dX7_shapeOf_27 ?_
      refine jr_bipush C bp_18 dX7_shapeOf_28 ?_
      refine jr_icmp_gt C (tgt := 36) dX7_shapeOf_30 (by decide) (fun h5 => ?_) (fun h5 => ?_)
      · refine jo_posP h5 ?_
        refine jr_iload_n C 0 rfl rfl dX7_shapeOf_36 ?_
        refine jr_bipush C bp_28 dX7_shapeOf_37 ?_
        refine jr_icmp_gt C (tgt := 45) dX7_shapeOf_39 (by decide) (fun h6 => ?_) (fun h6 => ?_)
        · refine jo_posP h6 ?_
          refine jr_iload_n C 0 rfl rfl dX7_shapeOf_45 ?_
          refine jr_bipush C bp_34 dX7_shapeOf_46 ?_
          refine jr_icmp_gt C (tgt := 54) dX7_shapeOf_48 (by decide) (fun h7 => ?_) (fun h7 => ?_)
          · refine jo_posP h7 ?_
            refine jr_iload_n C 0 rfl rfl dX7_shapeOf_54 ?_
            refine jr_callSA C km_X7_19 (rk hR rfl) (c_Op_shapeOfOther (gl G) v0 s) rfl rfl rfl (Nat.le_of_ble_eq_true rfl) dX7_shapeOf_55 ?_
            exact jr_end (fun h => hr (f_Op_shapeOfOther v0) h _ _ dX7_shapeOf_58)
          refine jo_negP h7 ?_
          refine jr_ldcT C 5 rfl rfl (by decide) dX7_shapeOf_51 ?_
          exact jr_end (fun h => hr 205 h _ _ dX7_shapeOf_53)
        refine jo_negP h6 ?_
        refine jr_ldcT C 4 rfl rfl (by decide) dX7_shapeOf_42 ?_
        exact jr_end (fun h => hr 204 h _ _ dX7_shapeOf_44)
      refine jo_negP h5 ?_
      refine jr_ldcT C 3 rfl rfl (by decide) dX7_shapeOf_33 ?_
      exact jr_end (fun h => hr 203 h _ _ dX7_shapeOf_35)
    refine jo_posP h4 ?_
    refine jr_ldcT C 2 rfl rfl (by decide) dX7_shapeOf_24 ?_
    exact jr_end (fun h => hr 202 h _ _ dX7_shapeOf_26)
  refine jo_posP h1 ?_
  refine jr_ldcT C 1 rfl rfl (by decide) dX7_shapeOf_4 ?_
  exact jr_end (fun h => hr 201 h _ _ dX7_shapeOf_6)
set_option maxRecDepth 100000 in
theorem c_Op_shapeOf (l : Launch)  (v0 : Int32) (s : St) : CT SC l yX7_shapeOf cX7_shapeOf 1 (some (.object "java/lang/String")) 1 20 (fun a => [.int v0]) s s (fun a => some (.ref (a (f_Op_shapeOf v0)))) :=
  ct_A okX_C (by decide) (fun _ => Nat.le_of_ble_eq_true rfl) (fun G hl hR hL C hr => t_Op_shapeOf G hR hL C (Acc := fun v => v = (f_Op_shapeOf v0))  v0 s (fun v hv => by rw [hv]; exact hr) ⟨_, rfl, rfl⟩)
noncomputable def f_Pr_setOperand (P : Nat) (v1 : Int32) (v2 : Int32) (v3 : Int32) (s : St) : Option St :=
  gd ((v1 * 3) + v2) 600 <|
  lt (uI s (P + 2) (((v1 * 3) + v2) : Int32).toNatClampNeg v3) fun s1 =>
  some s1
set_option maxHeartbeats 4000000 in
set_option maxRecDepth 100000 in
theorem t_Pr_setOperand (G : GG) (hR : gR G = rmx 0 0) (hL : gL G = 4) (C : Cx SC G cX8_setOperand RX8) {Acc : St → Prop} {P : Nat} (hP : isP P) (v1 : Int32) (v2 : Int32) (v3 : Int32) (s : St) (hr : ∀ v : St, Acc v → RtV SC G cX8_setOperand v) : JJ SC G Acc (f_Pr_setOperand P v1 v2 v3 s) 0 [(0, .ref (ad G P)), (1, .int v1), (2, .int v2), (3, .int v3)] [] s := by
  unfold f_Pr_setOperand
  refine jr_aload_n C 0 rfl rfl dX8_setOperand_0 ?_
  refine jr_getR C FX_7 1 (oP_0 hP).1 (oP_0 hP).2 ff_7_1.1 ff_7_1.2 (rP_0_1 _ hP) fl_X8_15 dX8_setOperand_1 ?_
  refine jr_iload_n C 1 rfl rfl dX8_setOperand_4 ?_
  refine jr_iconst C ic_3 dX8_setOperand_5 ?_
  refine jr_imul C dX8_setOperand_6 ?_
  refine jr_iload_n C 2 rfl rfl dX8_setOperand_7 ?_
  refine jr_iadd C dX8_setOperand_8 ?_
  refine jr_iload_n C 3 rfl rfl dX8_setOperand_9 ?_
  refine jr_iast C (oP_2 hP).1 (oP_2 hP).2.1 (oP_2 hP).2.2 dX8_setOperand_10 (jr_ltS fun s1 => ?_)
  exact jr_end (fun h => hr s1 h _ _ dX8_setOperand_11)
set_option maxRecDepth 100000 in
theorem c_Pr_setOperand (l : Launch) {P : Nat} (hP : isP P) (v1 : Int32) (v2 : Int32) (v3 : Int32) (s : St) {q : St} (h : f_Pr_setOperand P v1 v2 v3 s = some q) : CT SC l yX8_setOperand cX8_setOperand 4 none 0 0 (fun a => [.ref (a P), .int v1, .int v2, .int v3]) s q (fun _ => none) :=
  ct_V okX_C (by decide) (fun _ => Nat.le_of_ble_eq_true rfl) (fun G hl hR hL C hr => t_Pr_setOperand G hR hL C (Acc := fun v => v = q) hP v1 v2 v3 s (fun v hv => by rw [hv]; exact hr) ⟨_, h, rfl⟩)
