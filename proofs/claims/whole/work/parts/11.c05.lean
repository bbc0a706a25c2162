noncomputable def f_Me_move (B : Nat) (v1 : Int32) (v2 : Int32) (v3 : Int32) (s : St) : Option St :=
  if v3 ≤ 0 then
  some s
  else
  if (f_Me_holds v1 v3) = 0 then
  some s
  else
  if (f_Me_holds v2 v3) = 0 then
  some s
  else
  gcp v1 v2 v3 4096 <|
  lt (uC s (B + 2) (va_cpy (s.1 (B + 2)) (s.1 (B + 2)) (v1 : Int32).toNatClampNeg (v2 : Int32).toNatClampNeg (v3 : Int32).toNatClampNeg)) fun s4 =>
  gcp v1 v2 v3 4096 <|
  lt (uC s4 (B + 3) (va_cpy (s4.1 (B + 3)) (s4.1 (B + 3)) (v1 : Int32).toNatClampNeg (v2 : Int32).toNatClampNeg (v3 : Int32).toNatClampNeg)) fun s5 =>
  gcp v1 v2 v3 4096 <|
  lt (uC s5 (B + 4) (va_cpy (s5.1 (B + 4)) (s5.1 (B + 4)) (v1 : Int32).toNatClampNeg (v2 : Int32).toNatClampNeg (v3 : Int32).toNatClampNeg)) fun s6 =>
  some s6
set_option maxHeartbeats 4000000 in
set_option maxRecDepth 100000 in
theorem t_Me_move (G : GG) (hR : gR G = rmx 1 40) (hL : gL G = 4) (C : Cx SC G cX6_move RX6) {Acc : St → Prop} {B : Nat} (hB : isM B) (v1 : Int32) (v2 : Int32) (v3 : Int32) (s : St) (hr : ∀ v : St, Acc v → RtV SC G cX6_move v) : JJ SC G Acc (f_Me_move B v1 v2 v3 s) 0 [(0, .ref (ad G (B + 1))), (1, .int v1), (2, .int v2), (3, .int v3)] [] s := by
  unfold f_Me_move
  refine jr_iload_n C 3 rfl rfl dX6_move_0 ?_
  refine jr_if_le C (tgt := 62) dX6_move_1 (by decide) (fun h1 => ?_) (fun h1 => ?_)
  · refine jo_pos h1 ?_
    exact jr_end (fun h => hr s h _ _ dX6_move_62)
  refine jo_neg h1 ?_
  refine jr_iload_n C 1 rfl rfl dX6_move_4 ?_
  refine jr_iload_n C 3 rfl rfl dX6_move_5 ?_
  refine jr_callSI C km_X6_73 (rk hR rfl) (c_Me_holds (gl G) isM_20 v1 v3 s) rfl rfl rfl (Nat.le_of_ble_eq_true rfl) dX6_move_6 ?_
  refine jr_if_eq C (tgt := 62) dX6_move_9 (by decide) (fun h2 => ?_) (fun h2 => ?_)
  · refine jo_pos h2 ?_
    exact jr_end (fun h => hr s h _ _ dX6_move_62)
  refine jo_neg h2 ?_
  refine jr_iload_n C 2 rfl rfl dX6_move_12 ?_
  refine jr_iload_n C 3 rfl rfl dX6_move_13 ?_
  refine jr_callSI C km_X6_73 (rk hR rfl) (c_Me_holds (gl G) isM_20 v2 v3 s) rfl rfl rfl (Nat.le_of_ble_eq_true rfl) dX6_move_14 ?_
  refine jr_if_eq C (tgt := 62) dX6_move_17 (by decide) (fun h3 => ?_) (fun h3 => ?_)
  · refine jo_pos h3 ?_
    exact jr_end (fun h => hr s h _ _ dX6_move_62)
  refine jo_neg h3 ?_
  refine jr_aload_n C 0 rfl rfl dX6_move_20 ?_
  refine jr_getR C FX_6 0 (oM_1 hB).1 (oM_1 hB).2 ff_6_0.1 ff_6_0.2 (rM_1_0 _ hB) fl_X6_11 dX6_move_21 ?_
  refine jr_iload_n C 1 rfl rfl dX6_move_24 ?_
  refine jr_aload_n C 0 rfl rfl dX6_move_25 ?_
  refine jr_getR C FX_6 0 (oM_1 hB).1 (oM_1 hB).2 ff_6_0.1 ff_6_0.2 (rM_1_0 _ hB) fl_X6_11 dX6_move_26 ?_
  refine jr_iload_n C 2 rfl rfl dX6_move_29 ?_
  refine jr_iload_n C 3 rfl rfl dX6_move_30 ?_
  refine jr_copy C (oM_2 hB).1 (oM_2 hB).2.1 (oM_2 hB).2.2 km_X6_77 (rk3 hR rfl) (Nat.le_of_ble_eq_true rfl) dX6_move_31 (jr_ltS fun s4 => ?_)
  refine jr_aload_n C 0 rfl rfl dX6_move_34 ?_
  refine jr_getR C FX_6 1 (oM_1 hB).1 (oM_1 hB).2 ff_6_1.1 ff_6_1.2 (rM_1_1 _ hB) fl_X6_15 dX6_move_35 ?_
  refine jr_iload_n C 1 rfl rfl dX6_move_38 ?_
  refine jr_aload_n C 0 rfl rfl dX6_move_39 ?_
  refine jr_getR C FX_6 1 (oM_1 hB).1 (oM_1 hB).2 ff_6_1.1 ff_6_1.2 (rM_1_1 _ hB) fl_X6_15 dX6_move_40 ?_
  refine jr_iload_n C 2 rfl rfl dX6_move_43 ?_
  refine jr_iload_n C 3 rfl rfl dX6_move_44 ?_
  refine jr_copy C (oM_3 hB).1 (oM_3 hB).2.1 (oM_3 hB).2.2 km_X6_77 (rk3 hR rfl) (Nat.le_of_ble_eq_true rfl) dX6_move_45 (jr_ltS fun s5 => ?_)
  refine jr_aload_n C 0 rfl rfl dX6_move_48 ?_
  refine jr_getR C FX_6 2 (oM_1 hB).1 (oM_1 hB).2 ff_6_2.1 ff_6_2.2 (rM_1_2 _ hB) fl_X6_18 dX6_move_49 ?_
  refine jr_iload_n C 1 rfl rfl dX6_move_52 ?_
  refine jr_aload_n C 0 rfl rfl dX6_move_53 ?_
  refine jr_getR C FX_6 2 (oM_1 hB).1 (oM_1 hB).2 ff_6_2.1 ff_6_2.2 (rM_1_2 _ hB) fl_X6_18 dX6_move_54 ?_
  refine jr_iload_n C 2 rfl rfl dX6_move_57 ?_
  refine jr_iload_n C 3 rfl rfl dX6_move_58 ?_
  refine jr_copy C (oM_4 hB).1 (oM_4 hB).2.1 (oM_4 hB).2.2 km_X6_77 (rk3 hR rfl) (Nat.le_of_ble_eq_true rfl) dX6_move_59 (jr_ltS fun s6 => ?_)
  exact jr_end (fun h => hr s6 h _ _ dX6_move_62)
set_option maxRecDepth 100000 in
theorem c_Me_move (l : Launch) {B : Nat} (hB : isM B) (v1 : Int32) (v2 : Int32) (v3 : Int32) (s : St) {q : St} (h : f_Me_move B v1 v2 v3 s = some q) : CT SC l yX6_move cX6_move 4 none 1 40 (fun a => [.ref (a (B + 1)), .int v1, .int v2, .int v3]) s q (fun _ => none) :=
  ct_V okX_C (by decide) (fun _ => Nat.le_of_ble_eq_true rfl) (fun G hl hR hL C hr => t_Me_move G hR hL C (Acc := fun v => v = q) hB v1 v2 v3 s (fun v hv => by rw [hv]; exact hr) ⟨_, h, rfl⟩)
noncomputable def f_Me_close_L2 (B : Nat) (v1 : Int32) (v2 : Int32) (v3 : Int32) (s : St) : Option ((Int32 × St) ⊕ (Int32 × St)) :=
  if v2 ≤ v3 then
  some (.inr (v3, s))
  else
  if (f_Me_isByte (v1 + v3)) = 0 then
  some (.inr (v3, s))
  else
  gd (v1 + v3) 4096 <|
  lt (uI s (B + 5) ((v1 + v3) : Int32).toNatClampNeg (bN 0)) fun s3 =>
  some (.inl ((v3 + 1), s3))
set_option maxHeartbeats 4000000 in
set_option maxRecDepth 100000 in
theorem t_Me_close_L2 (G : GG) (hR : gR G = rmx 1 20) (hL : gL G = 4) (C : Cx SC G cX6_close RX6) {Acc : ((Int32 × St) ⊕ (Int32 × St)) → Prop} {B : Nat} (hB : isM B) (v1 : Int32) (v2 : Int32) (v3 : Int32) (s : St) (hb1 : ∀ (a3 : Int32) (t : St), Acc (.inl (a3, t)) → KK SC G 2 [(0, .ref (ad G (B + 1))), (1, .int v1), (2, .int v2), (3, .int a3)] [] t) (hx1 : ∀ (a3 : Int32) (t : St), Acc (.inr (a3, t)) → KK SC G 31 [(0, .ref (ad G (B + 1))), (1, .int v1), (2, .int v2), (3, .int a3)] [] t) : JJ SC G Acc (f_Me_close_L2 B v1 v2 v3 s) 2 [(0, .ref (ad G (B + 1))), (1, .int v1), (2, .int v2), (3, .int v3)] [] s := by
  unfold f_Me_close_L2
  refine jr_iload_n C 3 rfl rfl dX6_close_2 ?_
  refine jr_iload_n C 2 rfl rfl dX6_close_3 ?_
  refine jr_icmp_ge C (tgt := 31) dX6_close_4 (by decide) (fun h1 => ?_) (fun h1 => ?_)
  · refine jo_pos h1 ?_
    exact jr_end (fun h => hx1 v3 s h)
  refine jo_neg h1 ?_
  refine jr_iload_n C 1 rfl rfl dX6_close_7 ?_
  refine jr_iload_n C 3 rfl rfl dX6_close_8 ?_
  refine jr_iadd C dX6_close_9 ?_
  refine jr_callSI C km_X6_35 (rk hR rfl) (c_Me_isByte (gl G) isM_20 (v1 + v3) s) rfl rfl rfl (Nat.le_of_ble_eq_true rfl) dX6_close_10 ?_
  refine jr_if_eq C (tgt := 31) dX6_close_13 (by decide) (fun h2 => ?_) (fun h2 => ?_)
  · refine jo_pos h2 ?_
    exact jr_end (fun h => hx1 v3 s h)
  refine jo_neg h2 ?_
  refine jr_aload_n C 0 rfl rfl dX6_close_16 ?_
  refine jr_getR C FX_6 3 (oM_1 hB).1 (oM_1 hB).2 ff_6_3.1 ff_6_3.2 (rM_1_3 _ hB) fl_X6_21 dX6_close_17 ?_
  refine jr_iload_n C 1 rfl rfl dX6_close_20 ?_
  refine jr_iload_n C 3 rfl rfl dX6_close_21 ?_
  refine jr_iadd C dX6_close_22 ?_
  refine jr_iconst C ic_0 dX6_close_23 ?_
  refine jr_zast C (oM_5 hB).1 (oM_5 hB).2.1 (oM_5 hB).2.2 dX6_close_24 (jr_ltS fun s3 => ?_)
  refine jr_iinc C 3 rfl ii_1 (lv' := [(3, .int (v3 + 1)), (0, .ref (ad G (B + 1))), (1, .int v1), (2, .int v2)]) (ltL hL rfl) rfl dX6_close_25 ?_
  refine jr_goto C (tgt := 2) dX6_close_28 (by decide) ?_
  refine jr_lv [1, 2, 3, 0] rfl ?_
  exact jr_end (fun h => hb1 (v3 + 1) s3 h)
noncomputable def f_Me_close (B : Nat) (v1 : Int32) (v2 : Int32) (s : St) : Option St :=
  (wh (fun a : (Int32 × St) => f_Me_close_L2 B v1 v2 a.1 a.2) (0, s)).bind (fun b4 =>
  some (b4.2))
set_option maxHeartbeats 4000000 in
set_option maxRecDepth 100000 in
theorem t_Me_close (G : GG) (hR : gR G = rmx 1 20) (hL : gL G = 4) (C : Cx SC G cX6_close RX6) {Acc : St → Prop} {B : Nat} (hB : isM B) (v1 : Int32) (v2 : Int32) (s : St) (hr : ∀ v : St, Acc v → RtV SC G cX6_close v) : JJ SC G Acc (f_Me_close B v1 v2 s) 0 [(0, .ref (ad G (B + 1))), (1, .int v1), (2, .int v2)] [] s := by
  unfold f_Me_close
  refine jr_iconst C ic_0 dX6_close_0 ?_
  refine jr_istore_n C (lv' := [(3, .int 0), (0, .ref (ad G (B + 1))), (1, .int v1), (2, .int v2)]) (ltL hL rfl) rfl rfl dX6_close_1 ?_
  refine jr_lv [1, 2, 3, 0] rfl ?_
  refine jr_loopB (pc := 2) (pcx := 31) (f := fun a : (Int32 × St) => f_Me_close_L2 B v1 v2 a.1 a.2) (fun a : (Int32 × St) => [(0, .ref (ad G (B + 1))), (1, .int v1), (2, .int v2), (3, .int (a.1))]) (fun a : (Int32 × St) => a.2) (0, s) (fun a => t_Me_close_L2 G hR hL C hB v1 v2 a.1 a.2 (fun _ _ h => h) (fun _ _ h => h)) (fun b4 => ?_)
  exact jr_end (fun h => hr (b4.2) h _ _ dX6_close_31)
set_option maxRecDepth 100000 in
theorem c_Me_close (l : Launch) {B : Nat} (hB : isM B) (v1 : Int32) (v2 : Int32) (s : St) {q : St} (h : f_Me_close B v1 v2 s = some q) : CT SC l yX6_close cX6_close 4 none 1 20 (fun a => [.ref (a (B + 1)), .int v1, .int v2]) s q (fun _ => none) :=
  ct_V okX_C (by decide) (fun _ => Nat.le_of_ble_eq_true rfl) (fun G hl hR hL C hr => t_Me_close G hR hL C (Acc := fun v => v = q) hB v1 v2 s (fun v hv => by rw [hv]; exact hr) ⟨_, h, rfl⟩)
noncomputable def f_He_keep_L58 (B : Nat) (s : St) : Option (St ⊕ St) :=
  if (s.1 (B + 6) 10) ≤ 512 then
  some (.inr s)
  else
  if (s.1 (B + 6) 9) ≤ (s.1 (B + 6) 8) then
  some (.inr s)
  else
  gd (s.1 (B + 6) 8) 100 <|
  lt (s.1 (B + 13) ((s.1 (B + 6) 8) : Int32).toNatClampNeg) fun x7 =>
  lt (uI s (B + 6) 8 ((s.1 (B + 6) 8) + 1)) fun s8 =>
  gd x7 101 <|
  lt (uI s8 (B + 9) (x7 : Int32).toNatClampNeg 0) fun s9 =>
  gd x7 101 <|
  lt (uI s9 (B + 6) 10 ((s9.1 (B + 6) 10) - (s9.1 (B + 8) (x7 : Int32).toNatClampNeg))) fun s10 =>
  (f_He_own B x7 0 s10).bind fun q11 =>
  some (.inl q11)
set_option maxHeartbeats 4000000 in
set_option maxRecDepth 100000 in
theorem t_He_keep_L58 (G : GG) (hR : gR G = rmx 2 45) (hL : gL G = 4) (C : Cx SC G cX2_keep RX2) {Acc : (St ⊕ St) → Prop} {B : Nat} (hB : isM B)  (s : St) (hb1 : ∀  (t : St), Acc (.inl t) → KK SC G 58 [(0, .ref (ad G (B + 6)))] [] t) (hx1 : ∀  (t : St), Acc (.inr t) → KK SC G 130 [(0, .ref (ad G (B + 6)))] [] t) : JJ SC G Acc (f_He_keep_L58 B s) 58 [(0, .ref (ad G (B + 6)))] [] s := by
  unfold f_He_keep_L58
  refine jr_aload_n C 0 rfl rfl dX2_keep_58 ?_
  refine jr_getI C FX_2 10 (oM_6 hB).1 (oM_6 hB).2 ff_2_10.1 ff_2_10.2 fl_X2_43 dX2_keep_59 ?_
  refine jr_sipush C sp_512 dX2_keep_62 ?_
  refine jr_icmp_le C (tgt := 130) dX2_keep_65 (by decide) (fun h5 => ?_) (fun h5 => ?_)
  · refine jo_pos h5 ?_
    exact jr_end (fun h => hx1 s h)
  refine jo_neg h5 ?_
  refine jr_aload_n C 0 rfl rfl dX2_keep_68 ?_
  refine jr_getI C FX_2 8 (oM_6 hB).1 (oM_6 hB).2 ff_2_8.1 ff_2_8.2 fl_X2_37 dX2_keep_69 ?_
  refine jr_aload_n C 0 rfl rfl dX2_keep_72 ?_
  refine jr_getI C FX_2 9 (oM_6 hB).1 (oM_6 hB).2 ff_2_9.1 ff_2_9.2 fl_X2_40 dX2_keep_73 ?_
  refine jr_icmp_ge C (tgt := 130) dX2_keep_76 (by decide) (fun h6 => ?_) (fun h6 => ?_)
  · refine jo_pos h6 ?_
    exact jr_end (fun h => hx1 s h)
  refine jo_neg h6 ?_
  refine jr_aload_n C 0 rfl rfl dX2_keep_79 ?_
  refine jr_getR C FX_2 7 (oM_6 hB).1 (oM_6 hB).2 ff_2_7.1 ff_2_7.2 (rM_6_7 _ hB) fl_X2_30 dX2_keep_80 ?_
  refine jr_aload_n C 0 rfl rfl dX2_keep_83 ?_
  refine jr_getI C FX_2 8 (oM_6 hB).1 (oM_6 hB).2 ff_2_8.1 ff_2_8.2 fl_X2_37 dX2_keep_84 ?_
  refine jr_iald C (oM_13 hB).1 (oM_13 hB).2.1 (oM_13 hB).2.2 dX2_keep_87 ?_
  refine jr_ltI (fun x7 => ?_)
  refine jr_istore_n C (lv' := [(3, .int x7), (0, .ref (ad G (B + 6)))]) (ltL hL rfl) rfl rfl dX2_keep_88 ?_
  refine jr_aload_n C 1 rfl rfl dX2_keep_89 ?_
  refine jr_dup C rfl dX2_keep_90 ?_
  refine jr_getI C FX_2 8 (oM_6 hB).1 (oM_6 hB).2 ff_2_8.1 ff_2_8.2 fl_X2_37 dX2_keep_91 ?_
  refine jr_iconst C ic_1 dX2_keep_94 ?_
  refine jr_iadd C dX2_keep_95 ?_
  refine jr_putI C FX_2 8 (oM_6 hB).1 (oM_6 hB).2 ff_2_8.1 ff_2_8.2 rfl rfl fl_X2_37 dX2_keep_96 (jr_ltS fun s8 => ?_)
  refine jr_aload_n C 1 rfl rfl dX2_keep_99 ?_
  refine jr_getR C FX_2 2 (oM_6 hB).1 (oM_6 hB).2 ff_2_2.1 ff_2_2.2 (rM_6_2 _ hB) fl_X2_18 dX2_keep_100 ?_
  refine jr_iload_n C 0 rfl rfl dX2_keep_103 ?_
  refine jr_iconst C ic_0 dX2_keep_104 ?_
  refine jr_iast C (oM_9 hB).1 (oM_9 hB).2.1 (oM_9 hB).2.2 dX2_keep_105 (jr_ltS fun s9 => ?_)
  refine jr_aload_n C 1 rfl rfl dX2_keep_106 ?_
  refine jr_dup C rfl dX2_keep_107 ?_
  refine jr_getI C FX_2 10 (oM_6 hB).1 (oM_6 hB).2 ff_2_10.1 ff_2_10.2 fl_X2_43 dX2_keep_108 ?_
  refine jr_aload_n C 1 rfl rfl dX2_keep_111 ?_
  refine jr_getR C FX_2 1 (oM_6 hB).1 (oM_6 hB).2 ff_2_1.1 ff_2_1.2 (rM_6_1 _ hB) fl_X2_15 dX2_keep_112 ?_
  refine jr_iload_n C 0 rfl rfl dX2_keep_115 ?_
  refine jr_iald C (oM_8 hB).1 (oM_8 hB).2.1 (oM_8 hB).2.2 dX2_keep_116 ?_
  refine jr_isub C dX2_keep_117 ?_
  refine jr_putI C FX_2 10 (oM_6 hB).1 (oM_6 hB).2 ff_2_10.1 ff_2_10.2 rfl rfl fl_X2_43 dX2_keep_118 (jr_ltS fun s10 => ?_)
  refine jr_aload_n C 1 rfl rfl dX2_keep_121 ?_
  refine jr_iload_n C 0 rfl rfl dX2_keep_122 ?_
  refine jr_iconst C ic_0 dX2_keep_123 ?_
  refine jr_bind (fun q11 e12 => ?_)
  refine jr_callVV C FX_2 km_X2_55 (oM_6 hB).1 (oM_6 hB).2 (rk hR rfl) (c_He_own (gl G) hB x7 0 s10 e12) rfl rfl rfl (Nat.le_of_ble_eq_true rfl) dX2_keep_124 ?_
  refine jr_goto C (tgt := 58) dX2_keep_127 (by decide) ?_
  refine jr_lv [1] rfl ?_
  exact jr_end (fun h => hb1 q11 h)
noncomputable def f_He_keep_J58 (B : Nat) (s : St) : Option St :=
  (wh (fun a : St => f_He_keep_L58 B a) s).bind (fun b13 =>
  some b13)
set_option maxHeartbeats 4000000 in
set_option maxRecDepth 100000 in
theorem t_He_keep_J58 (G : GG) (hR : gR G = rmx 2 45) (hL : gL G = 4) (C : Cx SC G cX2_keep RX2) {Acc : St → Prop} {B : Nat} (hB : isM B)  (s : St) (hr : ∀ v : St, Acc v → RtV SC G cX2_keep v) : JJ SC G Acc (f_He_keep_J58 B s) 58 [(0, .ref (ad G (B + 6)))] [] s := by
  unfold f_He_keep_J58
  refine jr_loopB (pc := 58) (pcx := 130) (f := fun a : St => f_He_keep_L58 B a) (fun a : St => [(0, .ref (ad G (B + 6)))]) (fun a : St => a) s (fun a => t_He_keep_L58 G hR hL C hB  a (fun _ h => h) (fun _ h => h)) (fun b13 => ?_)
  exact jr_end (fun h => hr b13 h _ _ dX2_keep_130)
noncomputable def f_He_keep (B : Nat) (v1 : Int32) (v2 : Int32) (s : St) : Option St :=
  gd v1 101 <|
  lt (uI s (B + 9) (v1 : Int32).toNatClampNeg 1) fun s1 =>
  gd v1 101 <|
  lt (uI s1 (B + 11) (v1 : Int32).toNatClampNeg v2) fun s2 =>
  gd v1 101 <|
  lt (uI s2 (B + 6) 10 ((s2.1 (B + 6) 10) + (s2.1 (B + 8) (v1 : Int32).toNatClampNeg))) fun s3 =>
  if 100 ≤ (s3.1 (B + 6) 9) then
  f_He_keep_J58 B s3
  else
  gd (s3.1 (B + 6) 9) 100 <|
  lt (uI s3 (B + 13) ((s3.1 (B + 6) 9) : Int32).toNatClampNeg v1) fun s14 =>
  lt (uI s14 (B + 6) 9 ((s14.1 (B + 6) 9) + 1)) fun s15 =>
  f_He_keep_J58 B s15
set_option maxHeartbeats 4000000 in
set_option maxRecDepth 100000 in
theorem t_He_keep (G : GG) (hR : gR G = rmx 2 45) (hL : gL G = 4) (C : Cx SC G cX2_keep RX2) {Acc : St → Prop} {B : Nat} (hB : isM B) (v1 : Int32) (v2 : Int32) (s : St) (hr : ∀ v : St, Acc v → RtV SC G cX2_keep v) : JJ SC G Acc (f_He_keep B v1 v2 s) 0 [(0, .ref (ad G (B + 6))), (1, .int v1), (2, .int v2)] [] s := by
  unfold f_He_keep
  refine jr_aload_n C 0 rfl rfl dX2_keep_0 ?_
  refine jr_getR C FX_2 2 (oM_6 hB).1 (oM_6 hB).2 ff_2_2.1 ff_2_2.2 (rM_6_2 _ hB) fl_X2_18 dX2_keep_1 ?_
  refine jr_iload_n C 1 rfl rfl dX2_keep_4 ?_
  refine jr_iconst C ic_1 dX2_keep_5 ?_
  refine jr_iast C (oM_9 hB).1 (oM_9 hB).2.1 (oM_9 hB).2.2 dX2_keep_6 (jr_ltS fun s1 => ?_)
  refine jr_aload_n C 0 rfl rfl dX2_keep_7 ?_
  refine jr_getR C FX_2 4 (oM_6 hB).1 (oM_6 hB).2 ff_2_4.1 ff_2_4.2 (rM_6_4 _ hB) fl_X2_24 dX2_keep_8 ?_
  refine jr_iload_n C 1 rfl rfl dX2_keep_11 ?_
  refine jr_iload_n C 2 rfl rfl dX2_keep_12 ?_
  refine jr_iast C (oM_11 hB).1 (oM_11 hB).2.1 (oM_11 hB).2.2 dX2_keep_13 (jr_ltS fun s2 => ?_)
  refine jr_aload_n C 0 rfl rfl dX2_keep_14 ?_
  refine jr_dup C rfl dX2_keep_15 ?_
  refine jr_getI C FX_2 10 (oM_6 hB).1 (oM_6 hB).2 ff_2_10.1 ff_2_10.2 fl_X2_43 dX2_keep_16 ?_
  refine jr_aload_n C 0 rfl rfl dX2_keep_19 ?_
  refine jr_getR C FX_2 1 (oM_6 hB).1 (oM_6 hB).2 ff_2_1.1 ff_2_1.2 (rM_6_1 _ hB) fl_X2_15 dX2_keep_20 ?_
  refine jr_iload_n C 1 rfl rfl dX2_keep_23 ?_
  refine jr_iald C (oM_8 hB).1 (oM_8 hB).2.1 (oM_8 hB).2.2 dX2_keep_24 ?_
  refine jr_iadd C dX2_keep_25 ?_
  refine jr_putI C FX_2 10 (oM_6 hB).1 (oM_6 hB).2 ff_2_10.1 ff_2_10.2 rfl rfl fl_X2_43 dX2_keep_26 (jr_ltS fun s3 => ?_)
  refine jr_aload_n C 0 rfl rfl dX2_keep_29 ?_
  refine jr_getI C FX_2 9 (oM_6 hB).1 (oM_6 hB).2 ff_2_9.1 ff_2_9.2 fl_X2_40 dX2_keep_30 ?_
  refine jr_bipush C bp_100 dX2_keep_33 ?_
  refine jr_icmp_ge C (tgt := 58) dX2_keep_35 (by decide) (fun h4 => ?_) (fun h4 => ?_)
  · refine jo_pos h4 ?_
    refine jr_lv [0] rfl ?_
    exact t_He_keep_J58 G hR hL C hB  s3 hr
  refine jo_neg h4 ?_
  refine jr_aload_n C 0 rfl rfl dX2_keep_38 ?_
  refine jr_getR C FX_2 7 (oM_6 hB).1 (oM_6 hB).2 ff_2_7.1 ff_2_7.2 (rM_6_7 _ hB) fl_X2_30 dX2_keep_39 ?_
  refine jr_aload_n C 0 rfl rfl dX2_keep_42 ?_
  refine jr_getI C FX_2 9 (oM_6 hB).1 (oM_6 hB).2 ff_2_9.1 ff_2_9.2 fl_X2_40 dX2_keep_43 ?_
  refine jr_iload_n C 1 rfl rfl dX2_keep_46 ?_
  refine jr_iast C (oM_13 hB).1 (oM_13 hB).2.1 (oM_13 hB).2.2 dX2_keep_47 (jr_ltS fun s14 => ?_)
  refine jr_aload_n C 0 rfl rfl dX2_keep_48 ?_
  refine jr_dup C rfl dX2_keep_49 ?_
  refine jr_getI C FX_2 9 (oM_6 hB).1 (oM_6 hB).2 ff_2_9.1 ff_2_9.2 fl_X2_40 dX2_keep_50 ?_
  refine jr_iconst C ic_1 dX2_keep_53 ?_
  refine jr_iadd C dX2_keep_54 ?_
  refine jr_putI C FX_2 9 (oM_6 hB).1 (oM_6 hB).2 ff_2_9.1 ff_2_9.2 rfl rfl fl_X2_40 dX2_keep_55 (jr_ltS fun s15 => ?_)
  refine jr_lv [0] rfl ?_
  exact t_He_keep_J58 G hR hL C hB  s15 hr
set_option maxRecDepth 100000 in
theorem c_He_keep (l : Launch) {B : Nat} (hB : isM B) (v1 : Int32) (v2 : Int32) (s : St) {q : St} (h : f_He_keep B v1 v2 s = some q) : CT SC l yX2_keep cX2_keep 4 none 2 45 (fun a => [.ref (a (B + 6)), .int v1, .int v2]) s q (fun _ => none) :=
  ct_V okX_C (by decide) (fun _ => Nat.le_of_ble_eq_true rfl) (fun G hl hR hL C hr => t_He_keep G hR hL C (Acc := fun v => v = q) hB v1 v2 s (fun v hv => by rw [hv]; exact hr) ⟨_, h, rfl⟩)
noncomputable def f_Ma_keepBlock (B : Nat) (v1 : Int32) (s : St) : Option St :=
  gd v1 101 <|
  gd v1 101 <|
  (f_Me_close B (s.1 (B + 7) (v1 : Int32).toNatClampNeg) (s.1 (B + 8) (v1 : Int32).toNatClampNeg) s).bind fun q1 =>
  (f_He_keep B v1 (q1.1 B 9) q1).bind fun q3 =>
  some q3
set_option maxHeartbeats 4000000 in
set_option maxRecDepth 100000 in
theorem t_Ma_keepBlock (G : GG) (hR : gR G = rmx 3 68) (hL : gL G = 2) (C : Cx SC G cX5_keepBlock RX5) {Acc : St → Prop} {B : Nat} (hB : isM B) (v1 : Int32) (s : St) (hr : ∀ v : St, Acc v → RtV SC G cX5_keepBlock v) : JJ SC G Acc (f_Ma_keepBlock B v1 s) 0 [(0, .ref (ad G B)), (1, .int v1)] [] s := by
  unfold f_Ma_keepBlock
  refine jr_aload_n C 0 rfl rfl dX5_keepBlock_0 ?_
  refine jr_getR C FX_5 1 (oM_0 hB).1 (oM_0 hB).2 ff_5_1.1 ff_5_1.2 (rM_0_1 _ hB) fl_X5_12 dX5_keepBlock_1 ?_
  refine jr_aload_n C 0 rfl rfl dX5_keepBlock_4 ?_
  refine jr_getR C FX_5 2 (oM_0 hB).1 (oM_0 hB).2 ff_5_2.1 ff_5_2.2 (rM_0_2 _ hB) fl_X5_21 dX5_keepBlock_5 ?_
  refine jr_getR C FX_2 0 (oM_6 hB).1 (oM_6 hB).2 ff_2_0.1 ff_2_0.2 (rM_6_0 _ hB) fl_X5_303 dX5_keepBlock_8 ?_
  refine jr_iload_n C 1 rfl rfl dX5_keepBlock_11 ?_
  refine jr_iald C (oM_7 hB).1 (oM_7 hB).2.1 (oM_7 hB).2.2 dX5_keepBlock_12 ?_
  refine jr_aload_n C 0 rfl rfl dX5_keepBlock_13 ?_
  refine jr_getR C FX_5 2 (oM_0 hB).1 (oM_0 hB).2 ff_5_2.1 ff_5_2.2 (rM_0_2 _ hB) fl_X5_21 dX5_keepBlock_14 ?_
  refine jr_getR C FX_2 1 (oM_6 hB).1 (oM_6 hB).2 ff_2_1.1 ff_2_1.2 (rM_6_1 _ hB) fl_X5_322 dX5_keepBlock_17 ?_
  refine jr_iload_n C 1 rfl rfl dX5_keepBlock_20 ?_
  refine jr_iald C (oM_8 hB).1 (oM_8 hB).2.1 (oM_8 hB).2.2 dX5_keepBlock_21 ?_
  refine jr_bind (fun q1 e2 => ?_)
  refine jr_callVV C FX_6 km_X5_325 (oM_1 hB).1 (oM_1 hB).2 (rk hR rfl) (c_Me_close (gl G) hB (s.1 (B + 7) (v1 : Int32).toNatClampNeg) (s.1 (B + 8) (v1 : Int32).toNatClampNeg) s e2) rfl rfl rfl (Nat.le_of_ble_eq_true rfl) dX5_keepBlock_22 ?_
  refine jr_aload_n C 0 rfl rfl dX5_keepBlock_25 ?_
  refine jr_getR C FX_5 2 (oM_0 hB).1 (oM_0 hB).2 ff_5_2.1 ff_5_2.2 (rM_0_2 _ hB) fl_X5_21 dX5_keepBlock_26 ?_
  refine jr_iload_n C 1 rfl rfl dX5_keepBlock_29 ?_
  refine jr_aload_n C 0 rfl rfl dX5_keepBlock_30 ?_
  refine jr_getI C FX_5 9 (oM_0 hB).1 (oM_0 hB).2 ff_5_9.1 ff_5_9.2 fl_X5_108 dX5_keepBlock_31 ?_
  refine jr_bind (fun q3 e4 => ?_)
  refine jr_callVV C FX_2 km_X5_328 (oM_6 hB).1 (oM_6 hB).2 (rk hR rfl) (c_He_keep (gl G) hB v1 (q1.1 B 9) q1 e4) rfl rfl rfl (Nat.le_of_ble_eq_true rfl) dX5_keepBlock_34 ?_
  exact jr_end (fun h => hr q3 h _ _ dX5_keepBlock_37)
set_option maxRecDepth 100000 in
theorem c_Ma_keepBlock (l : Launch) {B : Nat} (hB : isM B) (v1 : Int32) (s : St) {q : St} (h : f_Ma_keepBlock B v1 s = some q) : CT SC l yX5_keepBlock cX5_keepBlock 2 none 3 68 (fun a => [.ref (a B), .int v1]) s q (fun _ => none) :=
  ct_V okX_C (by decide) (fun _ => Nat.le_of_ble_eq_true rfl) (fun G hl hR hL C hr => t_Ma_keepBlock G hR hL C (Acc := fun v => v = q) hB v1 s (fun v hv => by rw [hv]; exact hr) ⟨_, h, rfl⟩)
noncomputable def f_Ma_grow_J150 (B : Nat) (v3 : Int32) (s : St) : Option St :=
  (f_Ma_operand B 0 s).bind fun q17 =>
  (f_Ma_give B q17 v3 0 0 s).bind fun q19 =>
  some q19
set_option maxHeartbeats 4000000 in
set_option maxRecDepth 100000 in
theorem t_Ma_grow_J150 (G : GG) (hR : gR G = rmx 4 99) (hL : gL G = 4) (C : Cx SC G cX5_grow RX5) {Acc : St → Prop} {B : Nat} (hB : isM B) (v3 : Int32) (s : St) (hr : ∀ v : St, Acc v → RtV SC G cX5_grow v) : JJ SC G Acc (f_Ma_grow_J150 B v3 s) 150 [(0, .ref (ad G B)), (3, .int v3)] [] s := by
  unfold f_Ma_grow_J150
  refine jr_aload_n C 0 rfl rfl dX5_grow_150 ?_
  refine jr_aload_n C 0 rfl rfl dX5_grow_151 ?_
  refine jr_iconst C ic_0 dX5_grow_152 ?_
  refine jr_bind (fun q17 e18 => ?_)
  refine jr_callVI C FX_5 km_X5_209 (oM_0 hB).1 (oM_0 hB).2 (rk hR rfl) (c_Ma_operand (gl G) hB 0 s e18) rfl rfl rfl (Nat.le_of_ble_eq_true rfl) dX5_grow_153 ?_
  refine jr_iload_n C 1 rfl rfl dX5_grow_156 ?_
  refine jr_iconst C ic_0 dX5_grow_157 ?_
  refine jr_iconst C ic_0 dX5_grow_158 ?_
  refine jr_bind (fun q19 e20 => ?_)
  refine jr_callVV C FX_5 km_X5_275 (oM_0 hB).1 (oM_0 hB).2 (rk hR rfl) (c_Ma_give (gl G) hB q17 v3 0 0 s e20) rfl rfl rfl (Nat.le_of_ble_eq_true rfl) dX5_grow_159 ?_
  exact jr_end (fun h => hr q19 h _ _ dX5_grow_162)
noncomputable def f_Ma_grow_J102 (B : Nat) (v1 : Int32) (w0 : Int32) (s : St) : Option St :=
  if w0 = 0 then
  f_Ma_grow_J150 B w0 s
  else
  if v1 = 0 then
  f_Ma_grow_J150 B w0 s
  else
  gd v1 101 <|
  lt (if (s.1 (B + 35) 0) < (s.1 (B + 8) (v1 : Int32).toNatClampNeg) then (s.1 (B + 35) 0) else (s.1 (B + 8) (v1 : Int32).toNatClampNeg)) fun x22 =>
  (f_Me_move B (s.1 (B + 34) 0) w0 x22 s).bind fun q23 =>
  (f_Ma_keepBlock B v1 q23).bind fun q25 =>
  f_Ma_grow_J150 B w0 q25
set_option maxHeartbeats 4000000 in
set_option maxRecDepth 100000 in
theorem t_Ma_grow_J102 (G : GG) (hR : gR G = rmx 4 99) (hL : gL G = 4) (C : Cx SC G cX5_grow RX5) {Acc : St → Prop} {B : Nat} (hB : isM B) (v1 : Int32) (w0 : Int32) (s : St) (hr : ∀ v : St, Acc v → RtV SC G cX5_grow v) : JJ SC G Acc (f_Ma_grow_J102 B v1 w0 s) 102 [(0, .ref (ad G B)), (1, .int v1)] [.int w0] s := by
  unfold f_Ma_grow_J102
  refine jr_istore_n C (lv' := [(3, .int w0), (0, .ref (ad G B)), (1, .int v1)]) (ltL hL rfl) rfl rfl dX5_grow_102 ?_
  refine jr_iload_n C 0 rfl rfl dX5_grow_103 ?_
  refine jr_if_eq C (tgt := 150) dX5_grow_104 (by decide) (fun h16 => ?_) (fun h16 => ?_)
  · refine jo_pos h16 ?_
    refine jr_lv [1, 0] rfl ?_
    exact t_Ma_grow_J150 G hR hL C hB w0 s hr
  refine jo_neg h16 ?_
  refine jr_iload_n C 2 rfl rfl dX5_grow_107 ?_
  refine jr_if_eq C (tgt := 150) dX5_grow_108 (by decide) (fun h21 => ?_) (fun h21 => ?_)
  · refine jo_pos h21 ?_
    refine jr_lv [1, 0] rfl ?_
    exact t_Ma_grow_J150 G hR hL C hB w0 s hr
  refine jo_neg h21 ?_
  refine jr_aload_n C 1 rfl rfl dX5_grow_111 ?_
  refine jr_getR C FX_5 1 (oM_0 hB).1 (oM_0 hB).2 ff_5_1.1 ff_5_1.2 (rM_0_1 _ hB) fl_X5_12 dX5_grow_112 ?_
  refine jr_aload_n C 1 rfl rfl dX5_grow_115 ?_
  refine jr_getR C FX_5 6 (oM_0 hB).1 (oM_0 hB).2 ff_5_6.1 ff_5_6.2 (rM_0_6 _ hB) fl_X5_46 dX5_grow_116 ?_
  refine jr_getI C FX_1 0 (oD (dM_34 hB)).1 (oD (dM_34 hB)).2 ff_1_0.1 ff_1_0.2 fl_X5_232 dX5_grow_119 ?_
  refine jr_iload_n C 0 rfl rfl dX5_grow_122 ?_
  refine jr_aload_n C 1 rfl rfl dX5_grow_123 ?_
  refine jr_getR C FX_5 2 (oM_0 hB).1 (oM_0 hB).2 ff_5_2.1 ff_5_2.2 (rM_0_2 _ hB) fl_X5_21 dX5_grow_124 ?_
  refine jr_getR C FX_2 1 (oM_6 hB).1 (oM_6 hB).2 ff_2_1.1 ff_2_1.2 (rM_6_1 _ hB) fl_X5_322 dX5_grow_127 ?_
  refine jr_iload_n C 2 rfl rfl dX5_grow_130 ?_
  refine jr_iald C (oM_8 hB).1 (oM_8 hB).2.1 (oM_8 hB).2.2 dX5_grow_131 ?_
  refine jr_aload_n C 1 rfl rfl dX5_grow_132 ?_
  refine jr_getR C FX_5 7 (oM_0 hB).1 (oM_0 hB).2 ff_5_7.1 ff_5_7.2 (rM_0_7 _ hB) fl_X5_50 dX5_grow_133 ?_
  refine jr_getI C FX_1 0 (oD (dM_35 hB)).1 (oD (dM_35 hB)).2 ff_1_0.1 ff_1_0.2 fl_X5_232 dX5_grow_136 ?_
  refine jr_min C km_X5_331 (rk2 hR rfl) (Nat.le_of_ble_eq_true rfl) dX5_grow_139 ?_
  refine jr_ltI (fun x22 => ?_)
  refine jr_bind (fun q23 e24 => ?_)
  refine jr_callVV C FX_6 km_X5_336 (oM_1 hB).1 (oM_1 hB).2 (rk hR rfl) (c_Me_move (gl G) hB (s.1 (B + 34) 0) w0 x22 s e24) rfl rfl rfl (Nat.le_of_ble_eq_true rfl) dX5_grow_142 ?_
  refine jr_aload_n C 1 rfl rfl dX5_grow_145 ?_
  refine jr_iload_n C 2 rfl rfl dX5_grow_146 ?_
  refine jr_bind (fun q25 e26 => ?_)
  refine jr_callVV C FX_5 km_X5_316 (oM_0 hB).1 (oM_0 hB).2 (rk hR rfl) (c_Ma_keepBlock (gl G) hB v1 q23 e26) rfl rfl rfl (Nat.le_of_ble_eq_true rfl) dX5_grow_147 ?_
  refine jr_lv [1, 0] rfl ?_
  exact t_Ma_grow_J150 G hR hL C hB w0 q25 hr
noncomputable def f_Ma_grow_J81 (B : Nat) (v1 : Int32) (w0 : Int32) (s : St) : Option St :=
  if w0 = 0 then
  ((f_Ma_allotBlock B (s.1 (B + 35) 0) 0 s).bind fun q14 =>
  f_Ma_grow_J102 B v1 (q14.1) (q14.2))
  else
  f_Ma_grow_J102 B v1 0 s
set_option maxHeartbeats 4000000 in
set_option maxRecDepth 100000 in
theorem t_Ma_grow_J81 (G : GG) (hR : gR G = rmx 4 99) (hL : gL G = 4) (C : Cx SC G cX5_grow RX5) {Acc : St → Prop} {B : Nat} (hB : isM B) (v1 : Int32) (w0 : Int32) (s : St) (hr : ∀ v : St, Acc v → RtV SC G cX5_grow v) : JJ SC G Acc (f_Ma_grow_J81 B v1 w0 s) 81 [(0, .ref (ad G B)), (1, .int v1)] [.int w0] s := by
  unfold f_Ma_grow_J81
  refine jr_istore_n C (lv' := [(2, .int w0), (0, .ref (ad G B)), (1, .int v1)]) (ltL hL rfl) rfl rfl dX5_grow_81 ?_
  refine jr_iload_n C 0 rfl rfl dX5_grow_82 ?_
  refine jr_if_eq C (tgt := 90) dX5_grow_83 (by decide) (fun h13 => ?_) (fun h13 => ?_)
  · refine jo_pos h13 ?_
    refine jr_aload_n C 1 rfl rfl dX5_grow_90 ?_
    refine jr_aload_n C 1 rfl rfl dX5_grow_91 ?_
    refine jr_getR C FX_5 7 (oM_0 hB).1 (oM_0 hB).2 ff_5_7.1 ff_5_7.2 (rM_0_7 _ hB) fl_X5_50 dX5_grow_92 ?_
    refine jr_getI C FX_1 0 (oD (dM_35 hB)).1 (oD (dM_35 hB)).2 ff_1_0.1 ff_1_0.2 fl_X5_232 dX5_grow_95 ?_
    refine jr_iconst C ic_0 dX5_grow_98 ?_
    refine jr_bind (fun q14 e15 => ?_)
    refine jr_callVI C FX_5 km_X5_296 (oM_0 hB).1 (oM_0 hB).2 (rk hR rfl) (c_Ma_allotBlock (gl G) hB (s.1 (B + 35) 0) 0 s e15) rfl rfl rfl (Nat.le_of_ble_eq_true rfl) dX5_grow_99 ?_
    refine jr_lv [1, 2] rfl ?_
    exact t_Ma_grow_J102 G hR hL C hB v1 (q14.1) (q14.2) hr
  refine jo_neg h13 ?_
  refine jr_iconst C ic_0 dX5_grow_86 ?_
  refine jr_goto C (tgt := 102) dX5_grow_87 (by decide) ?_
  refine jr_lv [1, 2] rfl ?_
  exact t_Ma_grow_J102 G hR hL C hB v1 0 s hr
noncomputable def f_Ma_grow_J80 (B : Nat) (v1 : Int32) (s : St) : Option St :=
  f_Ma_grow_J81 B v1 0 s
set_option maxHeartbeats 4000000 in
set_option maxRecDepth 100000 in
theorem t_Ma_grow_J80 (G : GG) (hR : gR G = rmx 4 99) (hL : gL G = 4) (C : Cx SC G cX5_grow RX5) {Acc : St → Prop} {B : Nat} (hB : isM B) (v1 : Int32) (s : St) (hr : ∀ v : St, Acc v → RtV SC G cX5_grow v) : JJ SC G Acc (f_Ma_grow_J80 B v1 s) 80 [(0, .ref (ad G B)), (1, .int v1)] [] s := by
  unfold f_Ma_grow_J80
  refine jr_iconst C ic_0 dX5_grow_80 ?_
  exact t_Ma_grow_J81 G hR hL C hB v1 0 s hr
noncomputable def f_Ma_grow_J61 (B : Nat) (w0 : Int32) (s : St) : Option St :=
  if (s.1 (B + 34) 0) = 0 then
  f_Ma_grow_J80 B w0 s
  else
  if w0 = 0 then
  f_Ma_grow_J81 B w0 1 s
  else
  f_Ma_grow_J80 B w0 s
set_option maxHeartbeats 4000000 in
set_option maxRecDepth 100000 in
theorem t_Ma_grow_J61 (G : GG) (hR : gR G = rmx 4 99) (hL : gL G = 4) (C : Cx SC G cX5_grow RX5) {Acc : St → Prop} {B : Nat} (hB : isM B) (w0 : Int32) (s : St) (hr : ∀ v : St, Acc v → RtV SC G cX5_grow v) : JJ SC G Acc (f_Ma_grow_J61 B w0 s) 61 [(0, .ref (ad G B))] [.int w0] s := by
  unfold f_Ma_grow_J61
  refine jr_istore_n C (lv' := [(1, .int w0), (0, .ref (ad G B))]) (ltL hL rfl) rfl rfl dX5_grow_61 ?_
  refine jr_aload_n C 1 rfl rfl dX5_grow_62 ?_
  refine jr_getR C FX_5 6 (oM_0 hB).1 (oM_0 hB).2 ff_5_6.1 ff_5_6.2 (rM_0_6 _ hB) fl_X5_46 dX5_grow_63 ?_
  refine jr_getI C FX_1 0 (oD (dM_34 hB)).1 (oD (dM_34 hB)).2 ff_1_0.1 ff_1_0.2 fl_X5_232 dX5_grow_66 ?_
  refine jr_if_eq C (tgt := 80) dX5_grow_69 (by decide) (fun h12 => ?_) (fun h12 => ?_)
  · refine jo_pos h12 ?_
    refine jr_lv [1, 0] rfl ?_
    exact t_Ma_grow_J80 G hR hL C hB w0 s hr
  refine jo_neg h12 ?_
  refine jr_iload_n C 0 rfl rfl dX5_grow_72 ?_
  refine jr_if_ne C (tgt := 80) dX5_grow_73 (by decide) (fun h27 => ?_) (fun h27 => ?_)
  · refine jo_neg h27 ?_
    refine jr_lv [1, 0] rfl ?_
    exact t_Ma_grow_J80 G hR hL C hB w0 s hr
  refine jo_pos h27 ?_
  refine jr_iconst C ic_1 dX5_grow_76 ?_
  refine jr_goto C (tgt := 81) dX5_grow_77 (by decide) ?_
  refine jr_lv [1, 0] rfl ?_
  exact t_Ma_grow_J81 G hR hL C hB w0 1 s hr
noncomputable def f_Ma_grow (B : Nat) (s : St) : Option St :=
  (f_Ma_takeRegister B (B + 34) 1 s).bind fun q1 =>
  (f_Ma_takeEither B (B + 35) 2 q1).bind fun q3 =>
  (f_Ma_reportShade B (B + 34) 2 q3).bind fun q5 =>
  (f_Ma_reportShade B (B + 35) 5 q5).bind fun q7 =>
  if (q7.1 (B + 34) 0) = 0 then
  f_Ma_grow_J61 B 0 q7
  else
  (f_Ma_blockToFree B (q7.1 (B + 34) 0) q7).bind fun q10 =>
  f_Ma_grow_J61 B (q10.1) (q10.2)
set_option maxHeartbeats 4000000 in
set_option maxRecDepth 100000 in
theorem t_Ma_grow (G : GG) (hR : gR G = rmx 4 99) (hL : gL G = 4) (C : Cx SC G cX5_grow RX5) {Acc : St → Prop} {B : Nat} (hB : isM B)  (s : St) (hr : ∀ v : St, Acc v → RtV SC G cX5_grow v) : JJ SC G Acc (f_Ma_grow B s) 0 [(0, .ref (ad G B))] [] s := by
  unfold f_Ma_grow
  refine jr_aload_n C 0 rfl rfl dX5_grow_0 ?_
  refine jr_aload_n C 0 rfl rfl dX5_grow_1 ?_
  refine jr_getR C FX_5 6 (oM_0 hB).1 (oM_0 hB).2 ff_5_6.1 ff_5_6.2 (rM_0_6 _ hB) fl_X5_46 dX5_grow_2 ?_
  refine jr_iconst C ic_1 dX5_grow_5 ?_
  refine jr_bind (fun q1 e2 => ?_)
  refine jr_callVV C FX_5 km_X5_225 (oM_0 hB).1 (oM_0 hB).2 (rk hR rfl) (c_Ma_takeRegister (gl G) hB (dM_34 hB) 1 s e2) rfl rfl rfl (Nat.le_of_ble_eq_true rfl) dX5_grow_6 ?_
  refine jr_aload_n C 0 rfl rfl dX5_grow_9 ?_
  refine jr_aload_n C 0 rfl rfl dX5_grow_10 ?_
  refine jr_getR C FX_5 7 (oM_0 hB).1 (oM_0 hB).2 ff_5_7.1 ff_5_7.2 (rM_0_7 _ hB) fl_X5_50 dX5_grow_11 ?_
  refine jr_iconst C ic_2 dX5_grow_14 ?_
  refine jr_bind (fun q3 e4 => ?_)
  refine jr_callVV C FX_5 km_X5_256 (oM_0 hB).1 (oM_0 hB).2 (rk hR rfl) (c_Ma_takeEither (gl G) hB (dM_35 hB) 2 q1 e4) rfl rfl rfl (Nat.le_of_ble_eq_true rfl) dX5_grow_15 ?_
  refine jr_aload_n C 0 rfl rfl dX5_grow_18 ?_
  refine jr_iconst C ic_2 dX5_grow_19 ?_
  refine jr_aload_n C 0 rfl rfl dX5_grow_20 ?_
  refine jr_getR C FX_5 6 (oM_0 hB).1 (oM_0 hB).2 ff_5_6.1 ff_5_6.2 (rM_0_6 _ hB) fl_X5_46 dX5_grow_21 ?_
  refine jr_bind (fun q5 e6 => ?_)
  refine jr_callVV C FX_5 km_X5_259 (oM_0 hB).1 (oM_0 hB).2 (rk hR rfl) (c_Ma_reportShade (gl G) hB (dM_34 hB) 2 q3 e6) rfl rfl rfl (Nat.le_of_ble_eq_true rfl) dX5_grow_24 ?_
  refine jr_aload_n C 0 rfl rfl dX5_grow_27 ?_
  refine jr_iconst C ic_5 dX5_grow_28 ?_
  refine jr_aload_n C 0 rfl rfl dX5_grow_29 ?_
  refine jr_getR C FX_5 7 (oM_0 hB).1 (oM_0 hB).2 ff_5_7.1 ff_5_7.2 (rM_0_7 _ hB) fl_X5_50 dX5_grow_30 ?_
  refine jr_bind (fun q7 e8 => ?_)
  refine jr_callVV C FX_5 km_X5_259 (oM_0 hB).1 (oM_0 hB).2 (rk hR rfl) (c_Ma_reportShade (gl G) hB (dM_35 hB) 5 q5 e8) rfl rfl rfl (Nat.le_of_ble_eq_true rfl) dX5_grow_33 ?_
  refine jr_aload_n C 0 rfl rfl dX5_grow_36 ?_
  refine jr_getR C FX_5 6 (oM_0 hB).1 (oM_0 hB).2 ff_5_6.1 ff_5_6.2 (rM_0_6 _ hB) fl_X5_46 dX5_grow_37 ?_
  refine jr_getI C FX_1 0 (oD (dM_34 hB)).1 (oD (dM_34 hB)).2 ff_1_0.1 ff_1_0.2 fl_X5_232 dX5_grow_40 ?_
  refine jr_if_ne C (tgt := 50) dX5_grow_43 (by decide) (fun h9 => ?_) (fun h9 => ?_)
  · refine jo_neg h9 ?_
    refine jr_aload_n C 0 rfl rfl dX5_grow_50 ?_
    refine jr_aload_n C 0 rfl rfl dX5_grow_51 ?_
    refine jr_getR C FX_5 6 (oM_0 hB).1 (oM_0 hB).2 ff_5_6.1 ff_5_6.2 (rM_0_6 _ hB) fl_X5_46 dX5_grow_52 ?_
    refine jr_getI C FX_1 0 (oD (dM_34 hB)).1 (oD (dM_34 hB)).2 ff_1_0.1 ff_1_0.2 fl_X5_232 dX5_grow_55 ?_
    refine jr_bind (fun q10 e11 => ?_)
    refine jr_callVI C FX_5 km_X5_313 (oM_0 hB).1 (oM_0 hB).2 (rk hR rfl) (c_Ma_blockToFree (gl G) hB (q7.1 (B + 34) 0) q7 e11) rfl rfl rfl (Nat.le_of_ble_eq_true rfl) dX5_grow_58 ?_
    exact t_Ma_grow_J61 G hR hL C hB (q10.1) (q10.2) hr
  refine jo_pos h9 ?_
  refine jr_iconst C ic_0 dX5_grow_46 ?_
  refine jr_goto C (tgt := 61) dX5_grow_47 (by decide) ?_
  exact t_Ma_grow_J61 G hR hL C hB 0 q7 hr
set_option maxRecDepth 100000 in
theorem c_Ma_grow (l : Launch) {B : Nat} (hB : isM B)  (s : St) {q : St} (h : f_Ma_grow B s = some q) : CT SC l yX5_grow cX5_grow 4 none 4 99 (fun a => [.ref (a B)]) s q (fun _ => none) :=
  ct_V okX_C (by decide) (fun _ => Nat.le_of_ble_eq_true rfl) (fun G hl hR hL C hr => t_Ma_grow G hR hL C (Acc := fun v => v = q) hB  s (fun v hv => by rw [hv]; exact hr) ⟨_, h, rfl⟩)
noncomputable def f_Ma_giveBack (B : Nat) (s : St) : Option St :=
  (f_Ma_takeRegister B (B + 34) 0 s).bind fun q1 =>
  (f_Ma_reportShade B (B + 34) 2 q1).bind fun q3 =>
  if (q3.1 (B + 34) 0) = 0 then
  some q3
  else
  (f_Ma_blockToFree B (q3.1 (B + 34) 0) q3).bind fun q6 =>
  lt (q6.1) fun x8 =>
  if x8 = 0 then
  some (q6.2)
  else
  (f_Ma_keepBlock B x8 (q6.2)).bind fun q10 =>
  some q10
set_option maxHeartbeats 4000000 in
set_option maxRecDepth 100000 in
theorem t_Ma_giveBack (G : GG) (hR : gR G = rmx 4 89) (hL : gL G = 2) (C : Cx SC G cX5_giveBack RX5) {Acc : St → Prop} {B : Nat} (hB : isM B)  (s : St) (hr : ∀ v : St, Acc v → RtV SC G cX5_giveBack v) : JJ SC G Acc (f_Ma_giveBack B s) 0 [(0, .ref (ad G B))] [] s := by
  unfold f_Ma_giveBack
  refine jr_aload_n C 0 rfl rfl dX5_giveBack_0 ?_
  refine jr_aload_n C 0 rfl rfl dX5_giveBack_1 ?_
  refine jr_getR C FX_5 6 (oM_0 hB).1 (oM_0 hB).2 ff_5_6.1 ff_5_6.2 (rM_0_6 _ hB) fl_X5_46 dX5_giveBack_2 ?_
  refine jr_iconst C ic_0 dX5_giveBack_5 ?_
  refine jr_bind (fun q1 e2 => ?_)
  refine jr_callVV C FX_5 km_X5_225 (oM_0 hB).1 (oM_0 hB).2 (rk hR rfl) (c_Ma_takeRegister (gl G) hB (dM_34 hB) 0 s e2) rfl rfl rfl (Nat.le_of_ble_eq_true rfl) dX5_giveBack_6 ?_
  refine jr_aload_n C 0 rfl rfl dX5_giveBack_9 ?_
  refine jr_iconst C ic_2 dX5_giveBack_10 ?_
  refine jr_aload_n C 0 rfl rfl dX5_giveBack_11 ?_
  refine jr_getR C FX_5 6 (oM_0 hB).1 (oM_0 hB).2 ff_5_6.1 ff_5_6.2 (rM_0_6 _ hB) fl_X5_46 dX5_giveBack_12 ?_
  refine jr_bind (fun q3 e4 => ?_)
  refine jr_callVV C FX_5 km_X5_259 (oM_0 hB).1 (oM_0 hB).2 (rk hR rfl) (c_Ma_reportShade (gl G) hB (dM_34 hB) 2 q1 e4) rfl rfl rfl (Nat.le_of_ble_eq_true rfl) dX5_giveBack_15 ?_
  refine jr_aload_n C 0 rfl rfl dX5_giveBack_18 ?_
  refine jr_getR C FX_5 6 (oM_0 hB).1 (oM_0 hB).2 ff_5_6.1 ff_5_6.2 (rM_0_6 _ hB) fl_X5_46 dX5_giveBack_19 ?_
  refine jr_getI C FX_1 0 (oD (dM_34 hB)).1 (oD (dM_34 hB)).2 ff_1_0.1 ff_1_0.2 fl_X5_232 dX5_giveBack_22 ?_
  refine jr_if_eq C (tgt := 49) dX5_giveBack_25 (by decide) (fun h5 => ?_) (fun h5 => ?_)
  · refine jo_pos h5 ?_
    exact jr_end (fun h => hr q3 h _ _ dX5_giveBack_49)
  refine jo_neg h5 ?_
  refine jr_aload_n C 0 rfl rfl dX5_giveBack_28 ?_
  refine jr_aload_n C 0 rfl rfl dX5_giveBack_29 ?_
  refine jr_getR C FX_5 6 (oM_0 hB).1 (oM_0 hB).2 ff_5_6.1 ff_5_6.2 (rM_0_6 _ hB) fl_X5_46 dX5_giveBack_30 ?_
  refine jr_getI C FX_1 0 (oD (dM_34 hB)).1 (oD (dM_34 hB)).2 ff_1_0.1 ff_1_0.2 fl_X5_232 dX5_giveBack_33 ?_
  refine jr_bind (fun q6 e7 => ?_)
  refine jr_callVI C FX_5 km_X5_313 (oM_0 hB).1 (oM_0 hB).2 (rk hR rfl) (c_Ma_blockToFree (gl G) hB (q3.1 (B + 34) 0) q3 e7) rfl rfl rfl (Nat.le_of_ble_eq_true rfl) dX5_giveBack_36 ?_
  refine jr_ltI (fun x8 => ?_)
  refine jr_istore_n C (lv' := [(1, .int x8), (0, .ref (ad G B))]) (ltL hL rfl) rfl rfl dX5_giveBack_39 ?_
  refine jr_iload_n C 0 rfl rfl dX5_giveBack_40 ?_
  refine jr_if_eq C (tgt := 49) dX5_giveBack_41 (by decide) (fun h9 => ?_) (fun h9 => ?_)
  · refine jo_pos h9 ?_
    exact jr_end (fun h => hr (q6.2) h _ _ dX5_giveBack_49)
  refine jo_neg h9 ?_
  refine jr_aload_n C 1 rfl rfl dX5_giveBack_44 ?_
  refine jr_iload_n C 0 rfl rfl dX5_giveBack_45 ?_
  refine jr_bind (fun q10 e11 => ?_)
  refine jr_callVV C FX_5 km_X5_316 (oM_0 hB).1 (oM_0 hB).2 (rk hR rfl) (c_Ma_keepBlock (gl G) hB x8 (q6.2) e11) rfl rfl rfl (Nat.le_of_ble_eq_true rfl) dX5_giveBack_46 ?_
  exact jr_end (fun h => hr q10 h _ _ dX5_giveBack_49)
set_option maxRecDepth 100000 in
theorem c_Ma_giveBack (l : Launch) {B : Nat} (hB : isM B)  (s : St) {q : St} (h : f_Ma_giveBack B s = some q) : CT SC l yX5_giveBack cX5_giveBack 2 none 4 89 (fun a => [.ref (a B)]) s q (fun _ => none) :=
  ct_V okX_C (by decide) (fun _ => Nat.le_of_ble_eq_true rfl) (fun G hl hR hL C hr => t_Ma_giveBack G hR hL C (Acc := fun v => v = q) hB  s (fun v hv => by rw [hv]; exact hr) ⟨_, h, rfl⟩)
noncomputable def f_Ma_isCount (v0 : Int32) : Int32 :=
  if v0 < 0 then
  0
  else
  if 256 < v0 then
  0
  else
  1
set_option maxHeartbeats 4000000 in
set_option maxRecDepth 100000 in
theorem t_Ma_isCount (G : GG) (hR : gR G = rmx 0 0) (hL : gL G = 1) (C : Cx SC G cX5_isCount RX5) {Acc : Int32 → Prop} {B : Nat} (hB : isM B) (v0 : Int32) (s : St) (hr : ∀ v : Int32, Acc v → RtZ SC G cX5_isCount v s) : JJ SC G Acc (some (f_Ma_isCount v0)) 0 [(0, .int v0)] [] s := by
  unfold f_Ma_isCount
  refine jr_iload_n C 0 rfl rfl dX5_isCount_0 ?_
  refine jr_if_lt C (tgt := 15) dX5_isCount_1 (by decide) (fun h1 => ?_) (fun h1 => ?_)
  · refine jo_posP h1 ?_
    refine jr_iconst C ic_0 dX5_isCount_15 ?_
    exact jr_end (fun h => hr 0 h _ _ _ bN0 dX5_isCount_16)
  refine jo_negP h1 ?_
  refine jr_iload_n C 0 rfl rfl dX5_isCount_4 ?_
  refine jr_sipush C sp_256 dX5_isCount_5 ?_
  refine jr_icmp_gt C (tgt := 15) dX5_isCount_8 (by decide) (fun h2 => ?_) (fun h2 => ?_)
  · refine jo_posP h2 ?_
    refine jr_iconst C ic_0 dX5_isCount_15 ?_
    exact jr_end (fun h => hr 0 h _ _ _ bN0 dX5_isCount_16)
  refine jo_negP h2 ?_
  refine jr_iconst C ic_1 dX5_isCount_11 ?_
  refine jr_goto C (tgt := 16) dX5_isCount_12 (by decide) ?_
  exact jr_end (fun h => hr 1 h _ _ _ bN1 dX5_isCount_16)
set_option maxRecDepth 100000 in
theorem c_Ma_isCount (l : Launch) {B : Nat} (hB : isM B) (v0 : Int32) (s : St) : CT SC l yX5_isCount cX5_isCount 1 (some .boolean) 0 0 (fun a => [.int v0]) s s (fun _ => some (.int (f_Ma_isCount v0))) :=
  ct_Z okX_C (by decide) (fun _ => Nat.le_of_ble_eq_true rfl) (fun G hl hR hL C hr => t_Ma_isCount G hR hL C (Acc := fun v => v = (f_Ma_isCount v0)) hB v0 s (fun v hv => by rw [hv]; exact hr) ⟨_, rfl, rfl⟩)
noncomputable def f_Ma_copyBytes (B : Nat) (s : St) : Option St :=
  (f_Ma_registerOf B 0 s).bind fun q1 =>
  if isD q1 then
  (lt (s.1 q1 0) fun x4 =>
  (f_Ma_takeRegister B (B + 34) 1 s).bind fun q5 =>
  (f_Ma_takeEither B (B + 35) 2 q5).bind fun q7 =>
  (f_Ma_registerOf B 0 q7).bind fun q9 =>
  if isD q9 then
  ((f_Ma_reportShade B q9 2 q7).bind fun q12 =>
  (f_Ma_reportShade B (B + 34) 2 q12).bind fun q14 =>
  (f_Ma_reportShade B (B + 35) 5 q14).bind fun q16 =>
  if (f_Ma_isCount (q16.1 (B + 35) 0)) = 0 then
  ((f_Ma_trap B 4 q16).bind fun q27 =>
  some q27)
  else
  (f_Ma_isValid B (q16.1 (B + 34) 0) (q16.1 (B + 35) 0) q16).bind fun q19 =>
  if q19.1 = 0 then
  some (q19.2)
  else
  (f_Ma_isValid B x4 (q19.2.1 (B + 35) 0) (q19.2)).bind fun q22 =>
  if q22.1 = 0 then
  some (q22.2)
  else
  (f_Me_move B (q22.2.1 (B + 34) 0) x4 (q22.2.1 (B + 35) 0) (q22.2)).bind fun q25 =>
  some q25)
  else none)
  else none
set_option maxHeartbeats 4000000 in
set_option maxRecDepth 100000 in
theorem t_Ma_copyBytes (G : GG) (hR : gR G = rmx 4 88) (hL : gL G = 2) (C : Cx SC G cX5_copyBytes RX5) {Acc : St → Prop} {B : Nat} (hB : isM B)  (s : St) (hr : ∀ v : St, Acc v → RtV SC G cX5_copyBytes v) : JJ SC G Acc (f_Ma_copyBytes B s) 0 [(0, .ref (ad G B))] [] s := by
  unfold f_Ma_copyBytes
  refine jr_aload_n C 0 rfl rfl dX5_copyBytes_0 ?_
  refine jr_iconst C ic_0 dX5_copyBytes_1 ?_
  refine jr_bind (fun q1 e2 => ?_)
  refine jr_callVA C FX_5 km_X5_213 (oM_0 hB).1 (oM_0 hB).2 (rk hR rfl) (c_Ma_registerOf (gl G) hB 0 s e2) rfl rfl rfl (Nat.le_of_ble_eq_true rfl) dX5_copyBytes_2 ?_
  refine jo_if (fun h3 => ?_)
  refine jr_getI C FX_1 0 (oD h3).1 (oD h3).2 ff_1_0.1 ff_1_0.2 fl_X5_232 dX5_copyBytes_5 ?_
  refine jr_ltI (fun x4 => ?_)
  refine jr_istore_n C (lv' := [(1, .int x4), (0, .ref (ad G B))]) (ltL hL rfl) rfl rfl dX5_copyBytes_8 ?_
  refine jr_aload_n C 1 rfl rfl dX5_copyBytes_9 ?_
  refine jr_aload_n C 1 rfl rfl dX5_copyBytes_10 ?_
  refine jr_getR C FX_5 6 (oM_0 hB).1 (oM_0 hB).2 ff_5_6.1 ff_5_6.2 (rM_0_6 _ hB) fl_X5_46 dX5_copyBytes_11 ?_
  refine jr_iconst C ic_1 dX5_copyBytes_14 ?_
  refine jr_bind (fun q5 e6 => ?_)
  refine jr_callVV C FX_5 km_X5_225 (oM_0 hB).1 (oM_0 hB).2 (rk hR rfl) (c_Ma_takeRegister (gl G) hB (dM_34 hB) 1 s e6) rfl rfl rfl (Nat.le_of_ble_eq_true rfl) dX5_copyBytes_15 ?_
  refine jr_aload_n C 1 rfl rfl dX5_copyBytes_18 ?_
  refine jr_aload_n C 1 rfl rfl dX5_copyBytes_19 ?_
  refine jr_getR C FX_5 7 (oM_0 hB).1 (oM_0 hB).2 ff_5_7.1 ff_5_7.2 (rM_0_7 _ hB) fl_X5_50 dX5_copyBytes_20 ?_
  refine jr_iconst C ic_2 dX5_copyBytes_23 ?_
  refine jr_bind (fun q7 e8 => ?_)
  refine jr_callVV C FX_5 km_X5_256 (oM_0 hB).1 (oM_0 hB).2 (rk hR rfl) (c_Ma_takeEither (gl G) hB (dM_35 hB) 2 q5 e8) rfl rfl rfl (Nat.le_of_ble_eq_true rfl) dX5_copyBytes_24 ?_
  refine jr_aload_n C 1 rfl rfl dX5_copyBytes_27 ?_
  refine jr_iconst C ic_2 dX5_copyBytes_28 ?_
  refine jr_aload_n C 1 rfl rfl dX5_copyBytes_29 ?_
  refine jr_iconst C ic_0 dX5_copyBytes_30 ?_
  refine jr_bind (fun q9 e10 => ?_)
  refine jr_callVA C FX_5 km_X5_213 (oM_0 hB).1 (oM_0 hB).2 (rk hR rfl) (c_Ma_registerOf (gl G) hB 0 q7 e10) rfl rfl rfl (Nat.le_of_ble_eq_true rfl) dX5_copyBytes_31 ?_
  refine jo_if (fun h11 => ?_)
  refine jr_bind (fun q12 e13 => ?_)
  refine jr_callVV C FX_5 km_X5_259 (oM_0 hB).1 (oM_0 hB).2 (rk hR rfl) (c_Ma_reportShade (gl G) hB h11 2 q7 e13) rfl rfl rfl (Nat.le_of_ble_eq_true rfl) dX5_copyBytes_34 ?_
  refine jr_aload_n C 1 rfl rfl dX5_copyBytes_37 ?_
  refine jr_iconst C ic_2 dX5_copyBytes_38 ?_
  refine jr_aload_n C 1 rfl rfl dX5_copyBytes_39 ?_
  refine jr_getR C FX_5 6 (oM_0 hB).1 (oM_0 hB).2 ff_5_6.1 ff_5_6.2 (rM_0_6 _ hB) fl_X5_46 dX5_copyBytes_40 ?_
  refine jr_bind (fun q14 e15 => ?_)
  refine jr_callVV C FX_5 km_X5_259 (oM_0 hB).1 (oM_0 hB).2 (rk hR rfl) (c_Ma_reportShade (gl G) hB (dM_34 hB) 2 q12 e15) rfl rfl rfl (Nat.le_of_ble_eq_true rfl) dX5_copyBytes_43 ?_
  refine jr_aload_n C 1 rfl rfl dX5_copyBytes_46 ?_
  refine jr_iconst C ic_5 dX5_copyBytes_47 ?_
  refine jr_aload_n C 1 rfl rfl dX5_copyBytes_48 ?_
  refine jr_getR C FX_5 7 (oM_0 hB).1 (oM_0 hB).2 ff_5_7.1 ff_5_7.2 (rM_0_7 _ hB) fl_X5_50 dX5_copyBytes_49 ?_
  refine jr_bind (fun q16 e17 => ?_)
  refine jr_callVV C FX_5 km_X5_259 (oM_0 hB).1 (oM_0 hB).2 (rk hR rfl) (c_Ma_reportShade (gl G) hB (dM_35 hB) 5 q14 e17) rfl rfl rfl (Nat.le_of_ble_eq_true rfl) dX5_copyBytes_52 ?_
  refine jr_aload_n C 1 rfl rfl dX5_copyBytes_55 ?_
  refine jr_getR C FX_5 7 (oM_0 hB).1 (oM_0 hB).2 ff_5_7.1 ff_5_7.2 (rM_0_7 _ hB) fl_X5_50 dX5_copyBytes_56 ?_
  refine jr_getI C FX_1 0 (oD (dM_35 hB)).1 (oD (dM_35 hB)).2 ff_1_0.1 ff_1_0.2 fl_X5_232 dX5_copyBytes_59 ?_
  refine jr_callSI C km_X5_339 (rk hR rfl) (c_Ma_isCount (gl G) isM_20 (q16.1 (B + 35) 0) q16) rfl rfl rfl (Nat.le_of_ble_eq_true rfl) dX5_copyBytes_62 ?_
  refine jr_if_ne C (tgt := 76) dX5_copyBytes_65 (by decide) (fun h18 => ?_) (fun h18 => ?_)
  · refine jo_neg h18 ?_
    refine jr_aload_n C 1 rfl rfl dX5_copyBytes_76 ?_
    refine jr_aload_n C 1 rfl rfl dX5_copyBytes_77 ?_
    refine jr_getR C FX_5 6 (oM_0 hB).1 (oM_0 hB).2 ff_5_6.1 ff_5_6.2 (rM_0_6 _ hB) fl_X5_46 dX5_copyBytes_78 ?_
    refine jr_getI C FX_1 0 (oD (dM_34 hB)).1 (oD (dM_34 hB)).2 ff_1_0.1 ff_1_0.2 fl_X5_232 dX5_copyBytes_81 ?_
    refine jr_aload_n C 1 rfl rfl dX5_copyBytes_84 ?_
    refine jr_getR C FX_5 7 (oM_0 hB).1 (oM_0 hB).2 ff_5_7.1 ff_5_7.2 (rM_0_7 _ hB) fl_X5_50 dX5_copyBytes_85 ?_
    refine jr_getI C FX_1 0 (oD (dM_35 hB)).1 (oD (dM_35 hB)).2 ff_1_0.1 ff_1_0.2 fl_X5_232 dX5_copyBytes_88 ?_
    refine jr_bind (fun q19 e20 => ?_)
    refine jr_callVI C FX_5 km_X5_279 (oM_0 hB).1 (oM_0 hB).2 (rk hR rfl) (c_Ma_isValid (gl G) hB (q16.1 (B + 34) 0) (q16.1 (B + 35) 0) q16 e20) rfl rfl rfl (Nat.le_of_ble_eq_true rfl) dX5_copyBytes_91 ?_
    refine jr_if_eq C (tgt := 134) dX5_copyBytes_94 (by decide) (fun h21 => ?_) (fun h21 => ?_)
    · refine jo_pos h21 ?_
      exact jr_end (fun h => hr (q19.2) h _ _ dX5_copyBytes_134)
    refine jo_neg h21 ?_
    refine jr_aload_n C 1 rfl rfl dX5_copyBytes_97 ?_
    refine jr_iload_n C 0 rfl rfl dX5_copyBytes_98 ?_
    refine jr_aload_n C 1 rfl rfl dX5_copyBytes_99 ?_
    refine jr_getR C FX_5 7 (oM_0 hB).1 (oM_0 hB).2 ff_5_7.1 ff_5_7.2 (rM_0_7 _ hB) fl_X5_50 dX5_copyBytes_100 ?_
    refine jr_getI C FX_1 0 (oD (dM_35 hB)).1 (oD (dM_35 hB)).2 ff_1_0.1 ff_1_0.2 fl_X5_232 dX5_copyBytes_103 ?_
    refine jr_bind (fun q22 e23 => ?_)
    refine jr_callVI C FX_5 km_X5_279 (oM_0 hB).1 (oM_0 hB).2 (rk hR rfl) (c_Ma_isValid (gl G) hB x4 (q19.2.1 (B + 35) 0) (q19.2) e23) rfl rfl rfl (Nat.le_of_ble_eq_true rfl) dX5_copyBytes_106 ?_
    refine jr_if_eq C (tgt := 134) dX5_copyBytes_109 (by decide) (fun h24 => ?_) (fun h24 => ?_)
    · refine jo_pos h24 ?_
      exact jr_end (fun h => hr (q22.2) h _ _ dX5_copyBytes_134)
    refine jo_neg h24 ?_
    refine jr_aload_n C 1 rfl rfl dX5_copyBytes_112 ?_
    refine jr_getR C FX_5 1 (oM_0 hB).1 (oM_0 hB).2 ff_5_1.1 ff_5_1.2 (rM_0_1 _ hB) fl_X5_12 dX5_copyBytes_113 ?_
    refine jr_aload_n C 1 rfl rfl dX5_copyBytes_116 ?_
    refine jr_getR C FX_5 6 (oM_0 hB).1 (oM_0 hB).2 ff_5_6.1 ff_5_6.2 (rM_0_6 _ hB) fl_X5_46 dX5_copyBytes_117 ?_
    refine jr_getI C FX_1 0 (oD (dM_34 hB)).1 (oD (dM_34 hB)).2 ff_1_0.1 ff_1_0.2 fl_X5_232 dX5_copyBytes_120 ?_
    refine jr_iload_n C 0 rfl rfl dX5_copyBytes_123 ?_
    refine jr_aload_n C 1 rfl rfl dX5_copyBytes_124 ?_
    refine jr_getR C FX_5 7 (oM_0 hB).1 (oM_0 hB).2 ff_5_7.1 ff_5_7.2 (rM_0_7 _ hB) fl_X5_50 dX5_copyBytes_125 ?_
    refine jr_getI C FX_1 0 (oD (dM_35 hB)).1 (oD (dM_35 hB)).2 ff_1_0.1 ff_1_0.2 fl_X5_232 dX5_copyBytes_128 ?_
    refine jr_bind (fun q25 e26 => ?_)
    refine jr_callVV C FX_6 km_X5_336 (oM_1 hB).1 (oM_1 hB).2 (rk hR rfl) (c_Me_move (gl G) hB (q22.2.1 (B + 34) 0) x4 (q22.2.1 (B + 35) 0) (q22.2) e26) rfl rfl rfl (Nat.le_of_ble_eq_true rfl) dX5_copyBytes_131 ?_
    exact jr_end (fun h => hr q25 h _ _ dX5_copyBytes_134)
  refine jo_pos h18 ?_
  refine jr_aload_n C 1 rfl rfl dX5_copyBytes_68 ?_
  refine jr_iconst C ic_4 dX5_copyBytes_69 ?_
  refine jr_bind (fun q27 e28 => ?_)
  refine jr_callVV C FX_5 km_X5_229 (oM_0 hB).1 (oM_0 hB).2 (rk hR rfl) (c_Ma_trap (gl G) hB 4 q16 e28) rfl rfl rfl (Nat.le_of_ble_eq_true rfl) dX5_copyBytes_70 ?_
  refine jr_goto C (tgt := 134) dX5_copyBytes_73 (by decide) ?_
  exact jr_end (fun h => hr q27 h _ _ dX5_copyBytes_134)
set_option maxRecDepth 100000 in
theorem c_Ma_copyBytes (l : Launch) {B : Nat} (hB : isM B)  (s : St) {q : St} (h : f_Ma_copyBytes B s = some q) : CT SC l yX5_copyBytes cX5_copyBytes 2 none 4 88 (fun a => [.ref (a B)]) s q (fun _ => none) :=
  ct_V okX_C (by decide) (fun _ => Nat.le_of_ble_eq_true rfl) (fun G hl hR hL C hr => t_Ma_copyBytes G hR hL C (Acc := fun v => v = q) hB  s (fun v hv => by rw [hv]; exact hr) ⟨_, h, rfl⟩)
noncomputable def f_Me_repeat_L3 (B : Nat) (o1 : Nat) (v2 : Int32) (v3 : Int32) (v4 : Int32) (s : St) : Option ((Int32 × St) ⊕ (Int32 × St)) :=
  if v3 ≤ v4 then
  some (.inr (v4, s))
  else
  (f_Me_putByte B (v2 + v4) (s.1 o1 0) (s.1 o1 1) (s.1 o1 2) s).bind fun q2 =>
  some (.inl ((v4 + 1), q2))
set_option maxHeartbeats 4000000 in
set_option maxRecDepth 100000 in
theorem t_Me_repeat_L3 (G : GG) (hR : gR G = rmx 1 24) (hL : gL G = 5) (C : Cx SC G cX6_repeat RX6) {Acc : ((Int32 × St) ⊕ (Int32 × St)) → Prop} {B : Nat} (hB : isM B) {o1 : Nat} (ho1 : isD o1) (v2 : Int32) (v3 : Int32) (v4 : Int32) (s : St) (hb1 : ∀ (a4 : Int32) (t : St), Acc (.inl (a4, t)) → KK SC G 3 [(0, .ref (ad G (B + 1))), (1, .ref (ad G o1)), (2, .int v2), (3, .int v3), (4, .int a4)] [] t) (hx1 : ∀ (a4 : Int32) (t : St), Acc (.inr (a4, t)) → KK SC G 35 [(0, .ref (ad G (B + 1))), (1, .ref (ad G o1)), (2, .int v2), (3, .int v3), (4, .int a4)] [] t) : JJ SC G Acc (f_Me_repeat_L3 B o1 v2 v3 v4 s) 3 [(0, .ref (ad G (B + 1))), (1, .ref (ad G o1)), (2, .int v2), (3, .int v3), (4, .int v4)] [] s := by
  unfold f_Me_repeat_L3
  refine jr_iload C 4 rfl dX6_repeat_3 ?_
  refine jr_iload_n C 3 rfl rfl dX6_repeat_5 ?_
  refine jr_icmp_ge C (tgt := 35) dX6_repeat_6 (by decide) (fun h1 => ?_) (fun h1 => ?_)
  · refine jo_pos h1 ?_
    exact jr_end (fun h => hx1 v4 s h)
  refine jo_neg h1 ?_
  refine jr_aload_n C 0 rfl rfl dX6_repeat_9 ?_
  refine jr_iload_n C 2 rfl rfl dX6_repeat_10 ?_
  refine jr_iload C 4 rfl dX6_repeat_11 ?_
  refine jr_iadd C dX6_repeat_13 ?_
  refine jr_aload_n C 1 rfl rfl dX6_repeat_14 ?_
  refine jr_getI C FX_1 0 (oD ho1).1 (oD ho1).2 ff_1_0.1 ff_1_0.2 fl_X6_65 dX6_repeat_15 ?_
  refine jr_aload_n C 1 rfl rfl dX6_repeat_18 ?_
  refine jr_getI C FX_1 1 (oD ho1).1 (oD ho1).2 ff_1_1.1 ff_1_1.2 fl_X6_67 dX6_repeat_19 ?_
  refine jr_aload_n C 1 rfl rfl dX6_repeat_22 ?_
  refine jr_getI C FX_1 2 (oD ho1).1 (oD ho1).2 ff_1_2.1 ff_1_2.2 fl_X6_70 dX6_repeat_23 ?_
  refine jr_bind (fun q2 e3 => ?_)
  refine jr_callVV C FX_6 km_X6_43 (oM_1 hB).1 (oM_1 hB).2 (rk hR rfl) (c_Me_putByte (gl G) hB (v2 + v4) (s.1 o1 0) (s.1 o1 1) (s.1 o1 2) s e3) rfl rfl rfl (Nat.le_of_ble_eq_true rfl) dX6_repeat_26 ?_
  refine jr_iinc C 4 rfl ii_1 (lv' := [(4, .int (v4 + 1)), (0, .ref (ad G (B + 1))), (1, .ref (ad G o1)), (2, .int v2), (3, .int v3)]) (ltL hL rfl) rfl dX6_repeat_29 ?_
  refine jr_goto C (tgt := 3) dX6_repeat_32 (by decide) ?_
  refine jr_lv [1, 2, 3, 4, 0] rfl ?_
  exact jr_end (fun h => hb1 (v4 + 1) q2 h)
noncomputable def f_Me_repeat (B : Nat) (k1 : Nat) (v2 : Int32) (v3 : Int32) (s : St) : Option St :=
  (wh (fun a : (Int32 × St) => f_Me_repeat_L3 B k1 v2 v3 a.1 a.2) (0, s)).bind (fun b4 =>
  some (b4.2))
set_option maxHeartbeats 4000000 in
set_option maxRecDepth 100000 in
theorem t_Me_repeat (G : GG) (hR : gR G = rmx 1 24) (hL : gL G = 5) (C : Cx SC G cX6_repeat RX6) {Acc : St → Prop} {B : Nat} (hB : isM B) {k1 : Nat} (hk1 : isD k1) (v2 : Int32) (v3 : Int32) (s : St) (hr : ∀ v : St, Acc v → RtV SC G cX6_repeat v) : JJ SC G Acc (f_Me_repeat B k1 v2 v3 s) 0 [(0, .ref (ad G (B + 1))), (1, .ref (ad G k1)), (2, .int v2), (3, .int v3)] [] s := by
  unfold f_Me_repeat
  refine jr_iconst C ic_0 dX6_repeat_0 ?_
  refine jr_istore C (lv' := [(4, .int 0), (0, .ref (ad G (B + 1))), (1, .ref (ad G k1)), (2, .int v2), (3, .int v3)]) (ltL hL rfl) rfl dX6_repeat_1 ?_
  refine jr_lv [1, 2, 3, 4, 0] rfl ?_
  refine jr_loopB (pc := 3) (pcx := 35) (f := fun a : (Int32 × St) => f_Me_repeat_L3 B k1 v2 v3 a.1 a.2) (fun a : (Int32 × St) => [(0, .ref (ad G (B + 1))), (1, .ref (ad G k1)), (2, .int v2), (3, .int v3), (4, .int (a.1))]) (fun a : (Int32 × St) => a.2) (0, s) (fun a => t_Me_repeat_L3 G hR hL C hB hk1 v2 v3 a.1 a.2 (fun _ _ h => h) (fun _ _ h => h)) (fun b4 => ?_)
  exact jr_end (fun h => hr (b4.2) h _ _ dX6_repeat_35)
set_option maxRecDepth 100000 in
theorem c_Me_repeat (l : Launch) {B : Nat} (hB : isM B) {k1 : Nat} (hk1 : isD k1) (v2 : Int32) (v3 : Int32) (s : St) {q : St} (h : f_Me_repeat B k1 v2 v3 s = some q) : CT SC l yX6_repeat cX6_repeat 5 none 1 24 (fun a => [.ref (a (B + 1)), .ref (a k1), .int v2, .int v3]) s q (fun _ => none) :=
  ct_V okX_C (by decide) (fun _ => Nat.le_of_ble_eq_true rfl) (fun G hl hR hL C hr => t_Me_repeat G hR hL C (Acc := fun v => v = q) hB hk1 v2 v3 s (fun v hv => by rw [hv]; exact hr) ⟨_, h, rfl⟩)
noncomputable def f_Ma_fillBytes (B : Nat) (s : St) : Option St :=
  (f_Ma_registerOf B 0 s).bind fun q1 =>
  if isD q1 then
  (lt (s.1 q1 0) fun x4 =>
  (f_Ma_takeRegister B (B + 34) 1 s).bind fun q5 =>
  (f_Ma_takeEither B (B + 35) 2 q5).bind fun q7 =>
  (f_Ma_registerOf B 0 q7).bind fun q9 =>
  if isD q9 then
  ((f_Ma_reportShade B q9 2 q7).bind fun q12 =>
  (f_Ma_reportShade B (B + 35) 5 q12).bind fun q14 =>
  if (f_Ma_isCount (q14.1 (B + 35) 0)) = 0 then
  ((f_Ma_trap B 4 q14).bind fun q22 =>
  some q22)
  else
  (f_Ma_isValid B x4 (q14.1 (B + 35) 0) q14).bind fun q17 =>
  if q17.1 = 0 then
  some (q17.2)
  else
  (f_Me_repeat B (B + 34) x4 (q17.2.1 (B + 35) 0) (q17.2)).bind fun q20 =>
  some q20)
  else none)
  else none
set_option maxHeartbeats 4000000 in
set_option maxRecDepth 100000 in
theorem t_Ma_fillBytes (G : GG) (hR : gR G = rmx 4 88) (hL : gL G = 2) (C : Cx SC G cX5_fillBytes RX5) {Acc : St → Prop} {B : Nat} (hB : isM B)  (s : St) (hr : ∀ v : St, Acc v → RtV SC G cX5_fillBytes v) : JJ SC G Acc (f_Ma_fillBytes B s) 0 [(0, .ref (ad G B))] [] s := by
  unfold f_Ma_fillBytes
  refine jr_aload_n C 0 rfl rfl dX5_fillBytes_0 ?_
  refine jr_iconst C ic_0 dX5_fillBytes_1 ?_
  refine jr_bind (fun q1 e2 => ?_)
  refine jr_callVA C FX_5 km_X5_213 (oM_0 hB).1 (oM_0 hB).2 (rk hR rfl) (c_Ma_registerOf (gl G) hB 0 s e2) rfl rfl rfl (Nat.le_of_ble_eq_true rfl) dX5_fillBytes_2 ?_
  refine jo_if (fun h3 => ?_)
  refine jr_getI C FX_1 0 (oD h3).1 (oD h3).2 ff_1_0.1 ff_1_0.2 fl_X5_232 dX5_fillBytes_5 ?_
  refine jr_ltI (fun x4 => ?_)
  refine jr_istore_n C (lv' := [(1, .int x4), (0, .ref (ad G B))]) (ltL hL rfl) rfl rfl dX5_fillBytes_8 ?_
  refine jr_aload_n C 1 rfl rfl dX5_fillBytes_9 ?_
  refine jr_aload_n C 1 rfl rfl dX5_fillBytes_10 ?_
  refine jr_getR C FX_5 6 (oM_0 hB).1 (oM_0 hB).2 ff_5_6.1 ff_5_6.2 (rM_0_6 _ hB) fl_X5_46 dX5_fillBytes_11 ?_
  refine jr_iconst C ic_1 dX5_fillBytes_14 ?_
  refine jr_bind (fun q5 e6 => ?_)
  refine jr_callVV C FX_5 km_X5_225 (oM_0 hB).1 (oM_0 hB).2 (rk hR rfl) (c_Ma_takeRegister (gl G) hB (dM_34 hB) 1 s e6) rfl rfl rfl (Nat.le_of_ble_eq_true rfl) dX5_fillBytes_15 ?_
  refine jr_aload_n C 1 rfl rfl dX5_fillBytes_18 ?_
  refine jr_aload_n C 1 rfl rfl dX5_fillBytes_19 ?_
  refine jr_getR C FX_5 7 (oM_0 hB).1 (oM_0 hB).2 ff_5_7.1 ff_5_7.2 (rM_0_7 _ hB) fl_X5_50 dX5_fillBytes_20 ?_
  refine jr_iconst C ic_2 dX5_fillBytes_23 ?_
  refine jr_bind (fun q7 e8 => ?_)
  refine jr_callVV C FX_5 km_X5_256 (oM_0 hB).1 (oM_0 hB).2 (rk hR rfl) (c_Ma_takeEither (gl G) hB (dM_35 hB) 2 q5 e8) rfl rfl rfl (Nat.le_of_ble_eq_true rfl) dX5_fillBytes_24 ?_
  refine jr_aload_n C 1 rfl rfl dX5_fillBytes_27 ?_
  refine jr_iconst C ic_2 dX5_fillBytes_28 ?_
  refine jr_aload_n C 1 rfl rfl dX5_fillBytes_29 ?_
  refine jr_iconst C ic_0 dX5_fillBytes_30 ?_
  refine jr_bind (fun q9 e10 => ?_)
  refine jr_callVA C FX_5 km_X5_213 (oM_0 hB).1 (oM_0 hB).2 (rk hR rfl) (c_Ma_registerOf (gl G) hB 0 q7 e10) rfl rfl rfl (Nat.le_of_ble_eq_true rfl) dX5_fillBytes_31 ?_
  refine jo_if (fun h11 => ?_)
  refine jr_bind (fun q12 e13 => ?_)
  refine jr_callVV C FX_5 km_X5_259 (oM_0 hB).1 (oM_0 hB).2 (rk hR rfl) (c_Ma_reportShade (gl G) hB h11 2 q7 e13) rfl rfl rfl (Nat.le_of_ble_eq_true rfl) dX5_fillBytes_34 ?_
  refine jr_aload_n C 1 rfl rfl dX5_fillBytes_37 ?_
  refine jr_iconst C ic_5 dX5_fillBytes_38 ?_
  refine jr_aload_n C 1 rfl rfl dX5_fillBytes_39 ?_
  refine jr_getR C FX_5 7 (oM_0 hB).1 (oM_0 hB).2 ff_5_7.1 ff_5_7.2 (rM_0_7 _ hB) fl_X5_50 dX5_fillBytes_40 ?_
  refine jr_bind (fun q14 e15 => ?_)
  refine jr_callVV C FX_5 km_X5_259 (oM_0 hB).1 (oM_0 hB).2 (rk hR rfl) (c_Ma_reportShade (gl G) hB (dM_35 hB) 5 q12 e15) rfl rfl rfl (Nat.le_of_ble_eq_true rfl) dX5_fillBytes_43 ?_
  refine jr_aload_n C 1 rfl rfl dX5_fillBytes_46 ?_
  refine jr_getR C FX_5 7 (oM_0 hB).1 (oM_0 hB).2 ff_5_7.1 ff_5_7.2 (rM_0_7 _ hB) fl_X5_50 dX5_fillBytes_47 ?_
  refine jr_getI C FX_1 0 (oD (dM_35 hB)).1 (oD (dM_35 hB)).2 ff_1_0.1 ff_1_0.2 fl_X5_232 dX5_fillBytes_50 ?_
  refine jr_callSI C km_X5_339 (rk hR rfl) (c_Ma_isCount (gl G) isM_20 (q14.1 (B + 35) 0) q14) rfl rfl rfl (Nat.le_of_ble_eq_true rfl) dX5_fillBytes_53 ?_
  refine jr_if_ne C (tgt := 67) dX5_fillBytes_56 (by decide) (fun h16 => ?_) (fun h16 => ?_)
  · refine jo_neg h16 ?_
    refine jr_aload_n C 1 rfl rfl dX5_fillBytes_67 ?_
    refine jr_iload_n C 0 rfl rfl dX5_fillBytes_68 ?_
    refine jr_aload_n C 1 rfl rfl dX5_fillBytes_69 ?_
    refine jr_getR C FX_5 7 (oM_0 hB).1 (oM_0 hB).2 ff_5_7.1 ff_5_7.2 (rM_0_7 _ hB) fl_X5_50 dX5_fillBytes_70 ?_
    refine jr_getI C FX_1 0 (oD (dM_35 hB)).1 (oD (dM_35 hB)).2 ff_1_0.1 ff_1_0.2 fl_X5_232 dX5_fillBytes_73 ?_
    refine jr_bind (fun q17 e18 => ?_)
    refine jr_callVI C FX_5 km_X5_279 (oM_0 hB).1 (oM_0 hB).2 (rk hR rfl) (c_Ma_isValid (gl G) hB x4 (q14.1 (B + 35) 0) q14 e18) rfl rfl rfl (Nat.le_of_ble_eq_true rfl) dX5_fillBytes_76 ?_
    refine jr_if_eq C (tgt := 101) dX5_fillBytes_79 (by decide) (fun h19 => ?_) (fun h19 => ?_)
    · refine jo_pos h19 ?_
      exact jr_end (fun h => hr (q17.2) h _ _ dX5_fillBytes_101)
    refine jo_neg h19 ?_
    refine jr_aload_n C 1 rfl rfl dX5_fillBytes_82 ?_
    refine jr_getR C FX_5 1 (oM_0 hB).1 (oM_0 hB).2 ff_5_1.1 ff_5_1.2 (rM_0_1 _ hB) fl_X5_12 dX5_fillBytes_83 ?_
    refine jr_aload_n C 1 rfl rfl dX5_fillBytes_86 ?_
    refine jr_getR C FX_5 6 (oM_0 hB).1 (oM_0 hB).2 ff_5_6.1 ff_5_6.2 (rM_0_6 _ hB) fl_X5_46 dX5_fillBytes_87 ?_
    refine jr_iload_n C 0 rfl rfl dX5_fillBytes_90 ?_
    refine jr_aload_n C 1 rfl rfl dX5_fillBytes_91 ?_
    refine jr_getR C FX_5 7 (oM_0 hB).1 (oM_0 hB).2 ff_5_7.1 ff_5_7.2 (rM_0_7 _ hB) fl_X5_50 dX5_fillBytes_92 ?_
    refine jr_getI C FX_1 0 (oD (dM_35 hB)).1 (oD (dM_35 hB)).2 ff_1_0.1 ff_1_0.2 fl_X5_232 dX5_fillBytes_95 ?_
    refine jr_bind (fun q20 e21 => ?_)
    refine jr_callVV C FX_6 km_X5_342 (oM_1 hB).1 (oM_1 hB).2 (rk hR rfl) (c_Me_repeat (gl G) hB (dM_34 hB) x4 (q17.2.1 (B + 35) 0) (q17.2) e21) rfl rfl rfl (Nat.le_of_ble_eq_true rfl) dX5_fillBytes_98 ?_
    exact jr_end (fun h => hr q20 h _ _ dX5_fillBytes_101)
  refine jo_pos h16 ?_
  refine jr_aload_n C 1 rfl rfl dX5_fillBytes_59 ?_
  refine jr_iconst C ic_4 dX5_fillBytes_60 ?_
  refine jr_bind (fun q22 e23 => ?_)
  refine jr_callVV C FX_5 km_X5_229 (oM_0 hB).1 (oM_0 hB).2 (rk hR rfl) (c_Ma_trap (gl G) hB 4 q14 e23) rfl rfl rfl (Nat.le_of_ble_eq_true rfl) dX5_fillBytes_61 ?_
  refine jr_goto C (tgt := 101) dX5_fillBytes_64 (by decide) ?_
  exact jr_end (fun h => hr q22 h _ _ dX5_fillBytes_101)
set_option maxRecDepth 100000 in
theorem c_Ma_fillBytes (l : Launch) {B : Nat} (hB : isM B)  (s : St) {q : St} (h : f_Ma_fillBytes B s = some q) : CT SC l yX5_fillBytes cX5_fillBytes 2 none 4 88 (fun a => [.ref (a B)]) s q (fun _ => none) :=
  ct_V okX_C (by decide) (fun _ => Nat.le_of_ble_eq_true rfl) (fun G hl hR hL C hr => t_Ma_fillBytes G hR hL C (Acc := fun v => v = q) hB  s (fun v hv => by rw [hv]; exact hr) ⟨_, h, rfl⟩)
noncomputable def f_Ma_readInput_J39 (B : Nat) (v1 : Int32) (s : St) : Option St :=
  (f_Ma_operand B 0 s).bind fun q4 =>
  (f_Ma_give B q4 v1 0 0 s).bind fun q6 =>
  some q6
set_option maxHeartbeats 4000000 in
set_option maxRecDepth 100000 in
theorem t_Ma_readInput_J39 (G : GG) (hR : gR G = rmx 4 99) (hL : gL G = 2) (C : Cx SC G cX5_readInput RX5) {Acc : St → Prop} {B : Nat} (hB : isM B) (v1 : Int32) (s : St) (hr : ∀ v : St, Acc v → RtV SC G cX5_readInput v) : JJ SC G Acc (f_Ma_readInput_J39 B v1 s) 39 [(0, .ref (ad G B)), (1, .int v1)] [] s := by
  unfold f_Ma_readInput_J39
  refine jr_aload_n C 0 rfl rfl dX5_readInput_39 ?_
  refine jr_aload_n C 0 rfl rfl dX5_readInput_40 ?_
  refine jr_iconst C ic_0 dX5_readInput_41 ?_
  refine jr_bind (fun q4 e5 => ?_)
  refine jr_callVI C FX_5 km_X5_209 (oM_0 hB).1 (oM_0 hB).2 (rk hR rfl) (c_Ma_operand (gl G) hB 0 s e5) rfl rfl rfl (Nat.le_of_ble_eq_true rfl) dX5_readInput_42 ?_
  refine jr_iload_n C 1 rfl rfl dX5_readInput_45 ?_
  refine jr_iconst C ic_0 dX5_readInput_46 ?_
  refine jr_iconst C ic_0 dX5_readInput_47 ?_
  refine jr_bind (fun q6 e7 => ?_)
  refine jr_callVV C FX_5 km_X5_275 (oM_0 hB).1 (oM_0 hB).2 (rk hR rfl) (c_Ma_give (gl G) hB q4 v1 0 0 s e7) rfl rfl rfl (Nat.le_of_ble_eq_true rfl) dX5_readInput_48 ?_
  exact jr_end (fun h => hr q6 h _ _ dX5_readInput_51)
noncomputable def f_Ma_readInput (B : Nat) (s : St) : Option St :=
  gP (s.2.2 (mq B)) fun p1 =>
  if (s.1 p1 5) ≤ (s.1 B 14) then
  f_Ma_readInput_J39 B (-1) s
  else
  gP (s.2.2 (mq B)) fun p8 =>
  gd (s.1 B 14) 100 <|
  lt (s.1 (p8 + 4) ((s.1 B 14) : Int32).toNatClampNeg) fun x10 =>
  lt (uI s B 14 ((s.1 B 14) + 1)) fun s11 =>
  f_Ma_readInput_J39 B x10 s11
set_option maxHeartbeats 4000000 in
set_option maxRecDepth 100000 in
theorem t_Ma_readInput (G : GG) (hR : gR G = rmx 4 99) (hL : gL G = 2) (C : Cx SC G cX5_readInput RX5) {Acc : St → Prop} {B : Nat} (hB : isM B)  (s : St) (hr : ∀ v : St, Acc v → RtV SC G cX5_readInput v) : JJ SC G Acc (f_Ma_readInput B s) 0 [(0, .ref (ad G B))] [] s := by
  unfold f_Ma_readInput
  refine jr_iconst C ic_m1 dX5_readInput_0 ?_
  refine jr_istore_n C (lv' := [(1, .int (-1)), (0, .ref (ad G B))]) (ltL hL rfl) rfl rfl dX5_readInput_1 ?_
  refine jr_aload_n C 1 rfl rfl dX5_readInput_2 ?_
  refine jr_getI C FX_5 14 (oM_0 hB).1 (oM_0 hB).2 ff_5_14.1 ff_5_14.2 fl_X5_93 dX5_readInput_3 ?_
  refine jr_aload_n C 1 rfl rfl dX5_readInput_6 ?_
  refine jr_getP C FX_5 0 (oM_0 hB).1 (oM_0 hB).2 ff_5_0.1 ff_5_0.2 (fun hp => rM_p hB hp) fl_X5_60 dX5_readInput_7 (fun p1 h2 => ?_)
  refine jr_getI C FX_7 5 (oP_0 h2).1 (oP_0 h2).2 ff_7_5.1 ff_7_5.2 fl_X5_345 dX5_readInput_10 ?_
  refine jr_icmp_ge C (tgt := 39) dX5_readInput_13 (by decide) (fun h3 => ?_) (fun h3 => ?_)
  · refine jo_pos h3 ?_
    refine jr_lv [1, 0] rfl ?_
    exact t_Ma_readInput_J39 G hR hL C hB (-1) s hr
  refine jo_neg h3 ?_
  refine jr_aload_n C 1 rfl rfl dX5_readInput_16 ?_
  refine jr_getP C FX_5 0 (oM_0 hB).1 (oM_0 hB).2 ff_5_0.1 ff_5_0.2 (fun hp => rM_p hB hp) fl_X5_60 dX5_readInput_17 (fun p8 h9 => ?_)
  refine jr_getR C FX_7 4 (oP_0 h9).1 (oP_0 h9).2 ff_7_4.1 ff_7_4.2 (rP_0_4 _ h9) fl_X5_348 dX5_readInput_20 ?_
  refine jr_aload_n C 1 rfl rfl dX5_readInput_23 ?_
  refine jr_getI C FX_5 14 (oM_0 hB).1 (oM_0 hB).2 ff_5_14.1 ff_5_14.2 fl_X5_93 dX5_readInput_24 ?_
  refine jr_iald C (oP_4 h9).1 (oP_4 h9).2.1 (oP_4 h9).2.2 dX5_readInput_27 ?_
  refine jr_ltI (fun x10 => ?_)
  refine jr_istore_n C (lv' := [(1, .int x10), (0, .ref (ad G B))]) (ltL hL rfl) rfl rfl dX5_readInput_28 ?_
  refine jr_aload_n C 1 rfl rfl dX5_readInput_29 ?_
  refine jr_dup C rfl dX5_readInput_30 ?_
  refine jr_getI C FX_5 14 (oM_0 hB).1 (oM_0 hB).2 ff_5_14.1 ff_5_14.2 fl_X5_93 dX5_readInput_31 ?_
  refine jr_iconst C ic_1 dX5_readInput_34 ?_
  refine jr_iadd C dX5_readInput_35 ?_
  refine jr_putI C FX_5 14 (oM_0 hB).1 (oM_0 hB).2 ff_5_14.1 ff_5_14.2 rfl rfl fl_X5_93 dX5_readInput_36 (jr_ltS fun s11 => ?_)
  refine jr_lv [1, 0] rfl ?_
  exact t_Ma_readInput_J39 G hR hL C hB x10 s11 hr
set_option maxRecDepth 100000 in
theorem c_Ma_readInput (l : Launch) {B : Nat} (hB : isM B)  (s : St) {q : St} (h : f_Ma_readInput B s = some q) : CT SC l yX5_readInput cX5_readInput 2 none 4 99 (fun a => [.ref (a B)]) s q (fun _ => none) :=
  ct_V okX_C (by decide) (fun _ => Nat.le_of_ble_eq_true rfl) (fun G hl hR hL C hr => t_Ma_readInput G hR hL C (Acc := fun v => v = q) hB  s (fun v hv => by rw [hv]; exact hr) ⟨_, h, rfl⟩)
noncomputable def f_Ma_putOut_J34 (B : Nat) (o1 : Nat) (s : St) : Option St :=
  lt (uI s B 18 ((s.1 B 18) + 1)) fun s7 =>
  (f_Ma_addToMark B 3 s7).bind fun q8 =>
  (f_Ma_addToMark B (q8.1 o1 0) q8).bind fun q10 =>
  some q10
set_option maxHeartbeats 4000000 in
set_option maxRecDepth 100000 in
theorem t_Ma_putOut_J34 (G : GG) (hR : gR G = rmx 3 70) (hL : gL G = 2) (C : Cx SC G cX5_putOut RX5) {Acc : St → Prop} {B : Nat} (hB : isM B) {o1 : Nat} (ho1 : isD o1)  (s : St) (hr : ∀ v : St, Acc v → RtV SC G cX5_putOut v) : JJ SC G Acc (f_Ma_putOut_J34 B o1 s) 34 [(0, .ref (ad G B)), (1, .ref (ad G o1))] [] s := by
  unfold f_Ma_putOut_J34
  refine jr_aload_n C 0 rfl rfl dX5_putOut_34 ?_
  refine jr_dup C rfl dX5_putOut_35 ?_
  refine jr_getI C FX_5 18 (oM_0 hB).1 (oM_0 hB).2 ff_5_18.1 ff_5_18.2 fl_X5_99 dX5_putOut_36 ?_
  refine jr_iconst C ic_1 dX5_putOut_39 ?_
  refine jr_iadd C dX5_putOut_40 ?_
  refine jr_putI C FX_5 18 (oM_0 hB).1 (oM_0 hB).2 ff_5_18.1 ff_5_18.2 rfl rfl fl_X5_99 dX5_putOut_41 (jr_ltS fun s7 => ?_)
  refine jr_aload_n C 0 rfl rfl dX5_putOut_44 ?_
  refine jr_iconst C ic_3 dX5_putOut_45 ?_
  refine jr_bind (fun q8 e9 => ?_)
  refine jr_callVV C FX_5 km_X5_238 (oM_0 hB).1 (oM_0 hB).2 (rk hR rfl) (c_Ma_addToMark (gl G) hB 3 s7 e9) rfl rfl rfl (Nat.le_of_ble_eq_true rfl) dX5_putOut_46 ?_
  refine jr_aload_n C 0 rfl rfl dX5_putOut_49 ?_
  refine jr_aload_n C 1 rfl rfl dX5_putOut_50 ?_
  refine jr_getI C FX_1 0 (oD ho1).1 (oD ho1).2 ff_1_0.1 ff_1_0.2 fl_X5_232 dX5_putOut_51 ?_
  refine jr_bind (fun q10 e11 => ?_)
  refine jr_callVV C FX_5 km_X5_238 (oM_0 hB).1 (oM_0 hB).2 (rk hR rfl) (c_Ma_addToMark (gl G) hB (q8.1 o1 0) q8 e11) rfl rfl rfl (Nat.le_of_ble_eq_true rfl) dX5_putOut_54 ?_
  exact jr_end (fun h => hr q10 h _ _ dX5_putOut_57)
noncomputable def f_Ma_putOut (B : Nat) (s : St) : Option St :=
  (f_Ma_registerOf B 0 s).bind fun q1 =>
  if isD q1 then
  ((f_Ma_reportShade B q1 3 s).bind fun q4 =>
  if 100 ≤ (q4.1 B 18) then
  f_Ma_putOut_J34 B q1 q4
  else
  gd (q4.1 B 18) 100 <|
  lt (uI q4 (B + 37) ((q4.1 B 18) : Int32).toNatClampNeg (q4.1 q1 0)) fun s12 =>
  f_Ma_putOut_J34 B q1 s12)
  else none
set_option maxHeartbeats 4000000 in
set_option maxRecDepth 100000 in
theorem t_Ma_putOut (G : GG) (hR : gR G = rmx 3 70) (hL : gL G = 2) (C : Cx SC G cX5_putOut RX5) {Acc : St → Prop} {B : Nat} (hB : isM B)  (s : St) (hr : ∀ v : St, Acc v → RtV SC G cX5_putOut v) : JJ SC G Acc (f_Ma_putOut B s) 0 [(0, .ref (ad G B))] [] s := by
  unfold f_Ma_putOut
  refine jr_aload_n C 0 rfl rfl dX5_putOut_0 ?_
  refine jr_iconst C ic_0 dX5_putOut_1 ?_
  refine jr_bind (fun q1 e2 => ?_)
  refine jr_callVA C FX_5 km_X5_213 (oM_0 hB).1 (oM_0 hB).2 (rk hR rfl) (c_Ma_registerOf (gl G) hB 0 s e2) rfl rfl rfl (Nat.le_of_ble_eq_true rfl) dX5_putOut_2 ?_
  refine jo_if (fun h3 => ?_)
  refine jr_astore_n C (lv' := [(1, .ref (ad G q1)), (0, .ref (ad G B))]) (ltL hL rfl) rfl rfl dX5_putOut_5 ?_
  refine jr_aload_n C 1 rfl rfl dX5_putOut_6 ?_
  refine jr_iconst C ic_3 dX5_putOut_7 ?_
  refine jr_aload_n C 0 rfl rfl dX5_putOut_8 ?_
  refine jr_bind (fun q4 e5 => ?_)
  refine jr_callVV C FX_5 km_X5_259 (oM_0 hB).1 (oM_0 hB).2 (rk hR rfl) (c_Ma_reportShade (gl G) hB h3 3 s e5) rfl rfl rfl (Nat.le_of_ble_eq_true rfl) dX5_putOut_9 ?_
  refine jr_aload_n C 1 rfl rfl dX5_putOut_12 ?_
  refine jr_getI C FX_5 18 (oM_0 hB).1 (oM_0 hB).2 ff_5_18.1 ff_5_18.2 fl_X5_99 dX5_putOut_13 ?_
  refine jr_bipush C bp_100 dX5_putOut_16 ?_
  refine jr_icmp_ge C (tgt := 34) dX5_putOut_18 (by decide) (fun h6 => ?_) (fun h6 => ?_)
  · refine jo_pos h6 ?_
    refine jr_lv [1, 0] rfl ?_
    exact t_Ma_putOut_J34 G hR hL C hB h3  q4 hr
  refine jo_neg h6 ?_
  refine jr_aload_n C 1 rfl rfl dX5_putOut_21 ?_
  refine jr_getR C FX_5 17 (oM_0 hB).1 (oM_0 hB).2 ff_5_17.1 ff_5_17.2 (rM_0_17 _ hB) fl_X5_57 dX5_putOut_22 ?_
  refine jr_aload_n C 1 rfl rfl dX5_putOut_25 ?_
  refine jr_getI C FX_5 18 (oM_0 hB).1 (oM_0 hB).2 ff_5_18.1 ff_5_18.2 fl_X5_99 dX5_putOut_26 ?_
  refine jr_aload_n C 0 rfl rfl dX5_putOut_29 ?_
  refine jr_getI C FX_1 0 (oD h3).1 (oD h3).2 ff_1_0.1 ff_1_0.2 fl_X5_232 dX5_putOut_30 ?_
  refine jr_iast C (oM_37 hB).1 (oM_37 hB).2.1 (oM_37 hB).2.2 dX5_putOut_33 (jr_ltS fun s12 => ?_)
  refine jr_lv [1, 0] rfl ?_
  exact t_Ma_putOut_J34 G hR hL C hB h3  s12 hr
set_option maxRecDepth 100000 in
theorem c_Ma_putOut (l : Launch) {B : Nat} (hB : isM B)  (s : St) {q : St} (h : f_Ma_putOut B s = some q) : CT SC l yX5_putOut cX5_putOut 2 none 3 70 (fun a => [.ref (a B)]) s q (fun _ => none) :=
  ct_V okX_C (by decide) (fun _ => Nat.le_of_ble_eq_true rfl) (fun G hl hR hL C hr => t_Ma_putOut G hR hL C (Acc := fun v => v = q) hB  s (fun v hv => by rw [hv]; exact hr) ⟨_, h, rfl⟩)
noncomputable def f_Ma_isRange (v1 : Int32) (v2 : Int32) : Int32 :=
  if (f_Ma_isCount v2) = 0 then
  0
  else
  if (f_Me_holds v1 v2) = 0 then
  0
  else
  1
set_option maxHeartbeats 4000000 in
set_option maxRecDepth 100000 in
theorem t_Ma_isRange (G : GG) (hR : gR G = rmx 1 21) (hL : gL G = 3) (C : Cx SC G cX5_isRange RX5) {Acc : Int32 → Prop} {B : Nat} (hB : isM B) (v1 : Int32) (v2 : Int32) (s : St) (hr : ∀ v : Int32, Acc v → RtZ SC G cX5_isRange v s) : JJ SC G Acc (some (f_Ma_isRange v1 v2)) 0 [(0, .ref (ad G B)), (1, .int v1), (2, .int v2)] [] s := by
  unfold f_Ma_isRange
  refine jr_iload_n C 2 rfl rfl dX5_isRange_0 ?_
  refine jr_callSI C km_X5_339 (rk hR rfl) (c_Ma_isCount (gl G) isM_20 v2 s) rfl rfl rfl (Nat.le_of_ble_eq_true rfl) dX5_isRange_1 ?_
  refine jr_if_eq C (tgt := 19) dX5_isRange_4 (by decide) (fun h1 => ?_) (fun h1 => ?_)
  · refine jo_posP h1 ?_
    refine jr_iconst C ic_0 dX5_isRange_19 ?_
    exact jr_end (fun h => hr 0 h _ _ _ bN0 dX5_isRange_20)
  refine jo_negP h1 ?_
  refine jr_iload_n C 1 rfl rfl dX5_isRange_7 ?_
  refine jr_iload_n C 2 rfl rfl dX5_isRange_8 ?_
  refine jr_callSI C km_X5_351 (rk hR rfl) (c_Me_holds (gl G) isM_20 v1 v2 s) rfl rfl rfl (Nat.le_of_ble_eq_true rfl) dX5_isRange_9 ?_
  refine jr_if_eq C (tgt := 19) dX5_isRange_12 (by decide) (fun h2 => ?_) (fun h2 => ?_)
  · refine jo_posP h2 ?_
    refine jr_iconst C ic_0 dX5_isRange_19 ?_
    exact jr_end (fun h => hr 0 h _ _ _ bN0 dX5_isRange_20)
  refine jo_negP h2 ?_
  refine jr_iconst C ic_1 dX5_isRange_15 ?_
  refine jr_goto C (tgt := 20) dX5_isRange_16 (by decide) ?_
  exact jr_end (fun h => hr 1 h _ _ _ bN1 dX5_isRange_20)
set_option maxRecDepth 100000 in
theorem c_Ma_isRange (l : Launch) {B : Nat} (hB : isM B) (v1 : Int32) (v2 : Int32) (s : St) : CT SC l yX5_isRange cX5_isRange 3 (some .boolean) 1 21 (fun a => [.ref (a B), .int v1, .int v2]) s s (fun _ => some (.int (f_Ma_isRange v1 v2))) :=
  ct_Z okX_C (by decide) (fun _ => Nat.le_of_ble_eq_true rfl) (fun G hl hR hL C hr => t_Ma_isRange G hR hL C (Acc := fun v => v = (f_Ma_isRange v1 v2)) hB v1 v2 s (fun v hv => by rw [hv]; exact hr) ⟨_, rfl, rfl⟩)
noncomputable def f_Me_noteMark_J26 (B : Nat) (w0 : Int32) (s : St) : Option St :=
  gz w0 <|
  lt (uI s (B + 1) 5 w0) fun s2 =>
  some s2
set_option maxHeartbeats 4000000 in
set_option maxRecDepth 100000 in
theorem t_Me_noteMark_J26 (G : GG) (hR : gR G = rmx 0 0) (hL : gL G = 3) (C : Cx SC G cX6_noteMark RX6) {Acc : St → Prop} {B : Nat} (hB : isM B) (w0 : Int32) (s : St) (hr : ∀ v : St, Acc v → RtV SC G cX6_noteMark v) : JJ SC G Acc (f_Me_noteMark_J26 B w0 s) 26 [] [.int w0, .ref (ad G (B + 1))] s := by
  unfold f_Me_noteMark_J26
  refine jo_gz (fun h3 => ?_)
  refine jr_putZ C FX_6 5 (oM_1 hB).1 (oM_1 hB).2 ff_6_5.1 ff_6_5.2 rfl rfl h3 fl_X6_29 dX6_noteMark_26 (jr_ltS fun s2 => ?_)
  exact jr_end (fun h => hr s2 h _ _ dX6_noteMark_29)
noncomputable def f_Me_noteMark_J21 (B : Nat) (s : St) : Option St :=
  f_Me_noteMark_J26 B 1 s
set_option maxHeartbeats 4000000 in
set_option maxRecDepth 100000 in
theorem t_Me_noteMark_J21 (G : GG) (hR : gR G = rmx 0 0) (hL : gL G = 3) (C : Cx SC G cX6_noteMark RX6) {Acc : St → Prop} {B : Nat} (hB : isM B)  (s : St) (hr : ∀ v : St, Acc v → RtV SC G cX6_noteMark v) : JJ SC G Acc (f_Me_noteMark_J21 B s) 21 [] [.ref (ad G (B + 1))] s := by
  unfold f_Me_noteMark_J21
  refine jr_iconst C ic_1 dX6_noteMark_21 ?_
  refine jr_goto C (tgt := 26) dX6_noteMark_22 (by decide) ?_
  exact t_Me_noteMark_J26 G hR hL C hB 1 s hr
noncomputable def f_Me_noteMark_J25 (B : Nat) (s : St) : Option St :=
  f_Me_noteMark_J26 B 0 s
set_option maxHeartbeats 4000000 in
set_option maxRecDepth 100000 in
theorem t_Me_noteMark_J25 (G : GG) (hR : gR G = rmx 0 0) (hL : gL G = 3) (C : Cx SC G cX6_noteMark RX6) {Acc : St → Prop} {B : Nat} (hB : isM B)  (s : St) (hr : ∀ v : St, Acc v → RtV SC G cX6_noteMark v) : JJ SC G Acc (f_Me_noteMark_J25 B s) 25 [] [.ref (ad G (B + 1))] s := by
  unfold f_Me_noteMark_J25
  refine jr_iconst C ic_0 dX6_noteMark_25 ?_
  exact t_Me_noteMark_J26 G hR hL C hB 0 s hr
noncomputable def f_Me_noteMark (B : Nat) (v1 : Int32) (v2 : Int32) (s : St) : Option St :=
  if (s.1 (B + 1) 5) = 0 then
  (if v2 ≤ 0 then
  f_Me_noteMark_J25 B s
  else
  if (v1 + v2) ≤ 3072 then
  f_Me_noteMark_J25 B s
  else
  f_Me_noteMark_J21 B s)
  else
  f_Me_noteMark_J21 B s
set_option maxHeartbeats 4000000 in
set_option maxRecDepth 100000 in
theorem t_Me_noteMark (G : GG) (hR : gR G = rmx 0 0) (hL : gL G = 3) (C : Cx SC G cX6_noteMark RX6) {Acc : St → Prop} {B : Nat} (hB : isM B) (v1 : Int32) (v2 : Int32) (s : St) (hr : ∀ v : St, Acc v → RtV SC G cX6_noteMark v) : JJ SC G Acc (f_Me_noteMark B v1 v2 s) 0 [(0, .ref (ad G (B + 1))), (1, .int v1), (2, .int v2)] [] s := by
  unfold f_Me_noteMark
  refine jr_aload_n C 0 rfl rfl dX6_noteMark_0 ?_
  refine jr_aload_n C 0 rfl rfl dX6_noteMark_1 ?_
  refine jr_getI C FX_6 5 (oM_1 hB).1 (oM_1 hB).2 ff_6_5.1 ff_6_5.2 fl_X6_29 dX6_noteMark_2 ?_
  refine jr_if_ne C (tgt := 21) dX6_noteMark_5 (by decide) (fun h1 => ?_) (fun h1 => ?_)
  · refine jo_neg h1 ?_
    refine jr_lv [] rfl ?_
    exact t_Me_noteMark_J21 G hR hL C hB  s hr
  refine jo_pos h1 ?_
  refine jr_iload_n C 2 rfl rfl dX6_noteMark_8 ?_
  refine jr_if_le C (tgt := 25) dX6_noteMark_9 (by decide) (fun h4 => ?_) (fun h4 => ?_)
  · refine jo_pos h4 ?_
    refine jr_lv [] rfl ?_
    exact t_Me_noteMark_J25 G hR hL C hB  s hr
  refine jo_neg h4 ?_
  refine jr_iload_n C 1 rfl rfl dX6_noteMark_12 ?_
  refine jr_iload_n C 2 rfl rfl dX6_noteMark_13 ?_
  refine jr_iadd C dX6_noteMark_14 ?_
  refine jr_sipush C sp_3072 dX6_noteMark_15 ?_
  refine jr_icmp_le C (tgt := 25) dX6_noteMark_18 (by decide) (fun h5 => ?_) (fun h5 => ?_)
  · refine jo_pos h5 ?_
    refine jr_lv [] rfl ?_
    exact t_Me_noteMark_J25 G hR hL C hB  s hr
  refine jo_neg h5 ?_
  refine jr_lv [] rfl ?_
  exact t_Me_noteMark_J21 G hR hL C hB  s hr
set_option maxRecDepth 100000 in
theorem c_Me_noteMark (l : Launch) {B : Nat} (hB : isM B) (v1 : Int32) (v2 : Int32) (s : St) {q : St} (h : f_Me_noteMark B v1 v2 s = some q) : CT SC l yX6_noteMark cX6_noteMark 3 none 0 0 (fun a => [.ref (a (B + 1)), .int v1, .int v2]) s q (fun _ => none) :=
  ct_V okX_C (by decide) (fun _ => Nat.le_of_ble_eq_true rfl) (fun G hl hR hL C hr => t_Me_noteMark G hR hL C (Acc := fun v => v = q) hB v1 v2 s (fun v hv => by rw [hv]; exact hr) ⟨_, h, rfl⟩)
noncomputable def f_Me_setAsTheyAre_L2 (B : Nat) (v1 : Int32) (v2 : Int32) (v3 : Int32) (s : St) : Option ((Int32 × St) ⊕ (Int32 × St)) :=
  if v2 ≤ v3 then
  some (.inr (v3, s))
  else
  if (f_Me_isByte (v1 + v3)) = 0 then
  some (.inr (v3, s))
  else
  gd (v1 + v3) 4096 <|
  lt (uI s (B + 5) ((v1 + v3) : Int32).toNatClampNeg (bN 1)) fun s3 =>
  gd (v1 + v3) 4096 <|
  (f_Me_putByte B (v1 + v3) (s3.1 (B + 2) ((v1 + v3) : Int32).toNatClampNeg) 0 0 s3).bind fun q4 =>
  some (.inl ((v3 + 1), q4))
set_option maxHeartbeats 4000000 in
set_option maxRecDepth 100000 in
theorem t_Me_setAsTheyAre_L2 (G : GG) (hR : gR G = rmx 1 24) (hL : gL G = 4) (C : Cx SC G cX6_setAsTheyAre RX6) {Acc : ((Int32 × St) ⊕ (Int32 × St)) → Prop} {B : Nat} (hB : isM B) (v1 : Int32) (v2 : Int32) (v3 : Int32) (s : St) (hb1 : ∀ (a3 : Int32) (t : St), Acc (.inl (a3, t)) → KK SC G 2 [(0, .ref (ad G (B + 1))), (1, .int v1), (2, .int v2), (3, .int a3)] [] t) (hx1 : ∀ (a3 : Int32) (t : St), Acc (.inr (a3, t)) → KK SC G 48 [(0, .ref (ad G (B + 1))), (1, .int v1), (2, .int v2), (3, .int a3)] [] t) : JJ SC G Acc (f_Me_setAsTheyAre_L2 B v1 v2 v3 s) 2 [(0, .ref (ad G (B + 1))), (1, .int v1), (2, .int v2), (3, .int v3)] [] s := by
  unfold f_Me_setAsTheyAre_L2
  refine jr_iload_n C 3 rfl rfl dX6_setAsTheyAre_2 ?_
  refine jr_iload_n C 2 rfl rfl dX6_setAsTheyAre_3 ?_
  refine jr_icmp_ge C (tgt := 48) dX6_setAsTheyAre_4 (by decide) (fun h1 => ?_) (fun h1 => ?_)
  · refine jo_pos h1 ?_
    exact jr_end (fun h => hx1 v3 s h)
  refine jo_neg h1 ?_
  refine jr_iload_n C 1 rfl rfl dX6_setAsTheyAre_7 ?_
  refine jr_iload_n C 3 rfl rfl dX6_setAsTheyAre_8 ?_
  refine jr_iadd C dX6_setAsTheyAre_9 ?_
  refine jr_callSI C km_X6_35 (rk hR rfl) (c_Me_isByte (gl G) isM_20 (v1 + v3) s) rfl rfl rfl (Nat.le_of_ble_eq_true rfl) dX6_setAsTheyAre_10 ?_
  refine jr_if_eq C (tgt := 48) dX6_setAsTheyAre_13 (by decide) (fun h2 => ?_) (fun h2 => ?_)
  · refine jo_pos h2 ?_
    exact jr_end (fun h => hx1 v3 s h)
  refine jo_neg h2 ?_
  refine jr_aload_n C 0 rfl rfl dX6_setAsTheyAre_16 ?_
  refine jr_getR C FX_6 3 (oM_1 hB).1 (oM_1 hB).2 ff_6_3.1 ff_6_3.2 (rM_1_3 _ hB) fl_X6_21 dX6_setAsTheyAre_17 ?_
  refine jr_iload_n C 1 rfl rfl dX6_setAsTheyAre_20 ?_
  refine jr_iload_n C 3 rfl rfl dX6_setAsTheyAre_21 ?_
  refine jr_iadd C dX6_setAsTheyAre_22 ?_
  refine jr_iconst C ic_1 dX6_setAsTheyAre_23 ?_
  refine jr_zast C (oM_5 hB).1 (oM_5 hB).2.1 (oM_5 hB).2.2 dX6_setAsTheyAre_24 (jr_ltS fun s3 => ?_)
  refine jr_aload_n C 0 rfl rfl dX6_setAsTheyAre_25 ?_
  refine jr_iload_n C 1 rfl rfl dX6_setAsTheyAre_26 ?_
  refine jr_iload_n C 3 rfl rfl dX6_setAsTheyAre_27 ?_
  refine jr_iadd C dX6_setAsTheyAre_28 ?_
  refine jr_aload_n C 0 rfl rfl dX6_setAsTheyAre_29 ?_
  refine jr_getR C FX_6 0 (oM_1 hB).1 (oM_1 hB).2 ff_6_0.1 ff_6_0.2 (rM_1_0 _ hB) fl_X6_11 dX6_setAsTheyAre_30 ?_
  refine jr_iload_n C 1 rfl rfl dX6_setAsTheyAre_33 ?_
  refine jr_iload_n C 3 rfl rfl dX6_setAsTheyAre_34 ?_
  refine jr_iadd C dX6_setAsTheyAre_35 ?_
  refine jr_iald C (oM_2 hB).1 (oM_2 hB).2.1 (oM_2 hB).2.2 dX6_setAsTheyAre_36 ?_
  refine jr_iconst C ic_0 dX6_setAsTheyAre_37 ?_
  refine jr_iconst C ic_0 dX6_setAsTheyAre_38 ?_
  refine jr_bind (fun q4 e5 => ?_)
  refine jr_callVV C FX_6 km_X6_43 (oM_1 hB).1 (oM_1 hB).2 (rk hR rfl) (c_Me_putByte (gl G) hB (v1 + v3) (s3.1 (B + 2) ((v1 + v3) : Int32).toNatClampNeg) 0 0 s3 e5) rfl rfl rfl (Nat.le_of_ble_eq_true rfl) dX6_setAsTheyAre_39 ?_
  refine jr_iinc C 3 rfl ii_1 (lv' := [(3, .int (v3 + 1)), (0, .ref (ad G (B + 1))), (1, .int v1), (2, .int v2)]) (ltL hL rfl) rfl dX6_setAsTheyAre_42 ?_
  refine jr_goto C (tgt := 2) dX6_setAsTheyAre_45 (by decide) ?_
  refine jr_lv [1, 2, 3, 0] rfl ?_
  exact jr_end (fun h => hb1 (v3 + 1) q4 h)
noncomputable def f_Me_setAsTheyAre (B : Nat) (v1 : Int32) (v2 : Int32) (s : St) : Option St :=
  (wh (fun a : (Int32 × St) => f_Me_setAsTheyAre_L2 B v1 v2 a.1 a.2) (0, s)).bind (fun b6 =>
  some (b6.2))
set_option maxHeartbeats 4000000 in
set_option maxRecDepth 100000 in
theorem t_Me_setAsTheyAre (G : GG) (hR : gR G = rmx 1 24) (hL : gL G = 4) (C : Cx SC G cX6_setAsTheyAre RX6) {Acc : St → Prop} {B : Nat} (hB : isM B) (v1 : Int32) (v2 : Int32) (s : St) (hr : ∀ v : St, Acc v → RtV SC G cX6_setAsTheyAre v) : JJ SC G Acc (f_Me_setAsTheyAre B v1 v2 s) 0 [(0, .ref (ad G (B + 1))), (1, .int v1), (2, .int v2)] [] s := by
  unfold f_Me_setAsTheyAre
  refine jr_iconst C ic_0 dX6_setAsTheyAre_0 ?_
  refine jr_istore_n C (lv' := [(3, .int 0), (0, .ref (ad G (B + 1))), (1, .int v1), (2, .int v2)]) (ltL hL rfl) rfl rfl dX6_setAsTheyAre_1 ?_
  refine jr_lv [1, 2, 3, 0] rfl ?_
  refine jr_loopB (pc := 2) (pcx := 48) (f := fun a : (Int32 × St) => f_Me_setAsTheyAre_L2 B v1 v2 a.1 a.2) (fun a : (Int32 × St) => [(0, .ref (ad G (B + 1))), (1, .int v1), (2, .int v2), (3, .int (a.1))]) (fun a : (Int32 × St) => a.2) (0, s) (fun a => t_Me_setAsTheyAre_L2 G hR hL C hB v1 v2 a.1 a.2 (fun _ _ h => h) (fun _ _ h => h)) (fun b6 => ?_)
  exact jr_end (fun h => hr (b6.2) h _ _ dX6_setAsTheyAre_48)
set_option maxRecDepth 100000 in
theorem c_Me_setAsTheyAre (l : Launch) {B : Nat} (hB : isM B) (v1 : Int32) (v2 : Int32) (s : St) {q : St} (h : f_Me_setAsTheyAre B v1 v2 s = some q) : CT SC l yX6_setAsTheyAre cX6_setAsTheyAre 4 none 1 24 (fun a => [.ref (a (B + 1)), .int v1, .int v2]) s q (fun _ => none) :=
  ct_V okX_C (by decide) (fun _ => Nat.le_of_ble_eq_true rfl) (fun G hl hR hL C hr => t_Me_setAsTheyAre G hR hL C (Acc := fun v => v = q) hB v1 v2 s (fun v hv => by rw [hv]; exact hr) ⟨_, h, rfl⟩)
noncomputable def f_Ma_markBytes_J72 (B : Nat) (s : St) : Option St :=
  (f_Ma_trap B 4 s).bind fun q12 =>
  some q12
set_option maxHeartbeats 4000000 in
set_option maxRecDepth 100000 in
theorem t_Ma_markBytes_J72 (G : GG) (hR : gR G = rmx 4 88) (hL : gL G = 2) (C : Cx SC G cX5_markBytes RX5) {Acc : St → Prop} {B : Nat} (hB : isM B)  (s : St) (hr : ∀ v : St, Acc v → RtV SC G cX5_markBytes v) : JJ SC G Acc (f_Ma_markBytes_J72 B s) 72 [(0, .ref (ad G B))] [] s := by
  unfold f_Ma_markBytes_J72
  refine jr_aload_n C 0 rfl rfl dX5_markBytes_72 ?_
  refine jr_iconst C ic_4 dX5_markBytes_73 ?_
  refine jr_bind (fun q12 e13 => ?_)
  refine jr_callVV C FX_5 km_X5_229 (oM_0 hB).1 (oM_0 hB).2 (rk hR rfl) (c_Ma_trap (gl G) hB 4 s e13) rfl rfl rfl (Nat.le_of_ble_eq_true rfl) dX5_markBytes_74 ?_
  exact jr_end (fun h => hr q12 h _ _ dX5_markBytes_77)
noncomputable def f_Ma_markBytes (B : Nat) (s : St) : Option St :=
  (f_Ma_takeRegister B (B + 34) 0 s).bind fun q1 =>
  (f_Ma_takeEither B (B + 35) 1 q1).bind fun q3 =>
  (f_Ma_operand B 2 q3).bind fun q5 =>
  (f_Ma_reportShade B (B + 34) 2 q3).bind fun q7 =>
  (f_Ma_reportShade B (B + 35) 5 q7).bind fun q9 =>
  if q5 < 0 then
  f_Ma_markBytes_J72 B q9
  else
  if 2 < q5 then
  f_Ma_markBytes_J72 B q9
  else
  if (f_Ma_isRange (q9.1 (B + 34) 0) (q9.1 (B + 35) 0)) = 0 then
  f_Ma_markBytes_J72 B q9
  else
  (f_Me_noteMark B (q9.1 (B + 34) 0) (q9.1 (B + 35) 0) q9).bind fun q16 =>
  if q5 = 0 then
  ((f_Me_close B (q16.1 (B + 34) 0) (q16.1 (B + 35) 0) q16).bind fun q25 =>
  some q25)
  else
  if q5 = 1 then
  (lt (if 255 < (q16.1 B 9) then 255 else (q16.1 B 9)) fun x22 =>
  (f_Me_unset B (q16.1 (B + 34) 0) (q16.1 (B + 35) 0) (256 + x22) q16).bind fun q23 =>
  some q23)
  else
  (f_Me_setAsTheyAre B (q16.1 (B + 34) 0) (q16.1 (B + 35) 0) q16).bind fun q20 =>
  some q20
set_option maxHeartbeats 4000000 in
set_option maxRecDepth 100000 in
theorem t_Ma_markBytes (G : GG) (hR : gR G = rmx 4 88) (hL : gL G = 2) (C : Cx SC G cX5_markBytes RX5) {Acc : St → Prop} {B : Nat} (hB : isM B)  (s : St) (hr : ∀ v : St, Acc v → RtV SC G cX5_markBytes v) : JJ SC G Acc (f_Ma_markBytes B s) 0 [(0, .ref (ad G B))] [] s := by
  unfold f_Ma_markBytes
  refine jr_aload_n C 0 rfl rfl dX5_markBytes_0 ?_
  refine jr_aload_n C 0 rfl rfl dX5_markBytes_1 ?_
  refine jr_getR C FX_5 6 (oM_0 hB).1 (oM_0 hB).2 ff_5_6.1 ff_5_6.2 (rM_0_6 _ hB) fl_X5_46 dX5_markBytes_2 ?_
  refine jr_iconst C ic_0 dX5_markBytes_5 ?_
  refine jr_bind (fun q1 e2 => ?_)
  refine jr_callVV C FX_5 km_X5_225 (oM_0 hB).1 (oM_0 hB).2 (rk hR rfl) (c_Ma_takeRegister (gl G) hB (dM_34 hB) 0 s e2) rfl rfl rfl (Nat.le_of_ble_eq_true rfl) dX5_markBytes_6 ?_
  refine jr_aload_n C 0 rfl rfl dX5_markBytes_9 ?_
  refine jr_aload_n C 0 rfl rfl dX5_markBytes_10 ?_
  refine jr_getR C FX_5 7 (oM_0 hB).1 (oM_0 hB).2 ff_5_7.1 ff_5_7.2 (rM_0_7 _ hB) fl_X5_50 dX5_markBytes_11 ?_
  refine jr_iconst C ic_1 dX5_markBytes_14 ?_
  refine jr_bind (fun q3 e4 => ?_)
  refine jr_callVV C FX_5 km_X5_256 (oM_0 hB).1 (oM_0 hB).2 (rk hR rfl) (c_Ma_takeEither (gl G) hB (dM_35 hB) 1 q1 e4) rfl rfl rfl (Nat.le_of_ble_eq_true rfl) dX5_markBytes_15 ?_
  refine jr_aload_n C 0 rfl rfl dX5_markBytes_18 ?_
  refine jr_iconst C ic_2 dX5_markBytes_19 ?_
  refine jr_bind (fun q5 e6 => ?_)
  refine jr_callVI C FX_5 km_X5_209 (oM_0 hB).1 (oM_0 hB).2 (rk hR rfl) (c_Ma_operand (gl G) hB 2 q3 e6) rfl rfl rfl (Nat.le_of_ble_eq_true rfl) dX5_markBytes_20 ?_
  refine jr_istore_n C (lv' := [(1, .int q5), (0, .ref (ad G B))]) (ltL hL rfl) rfl rfl dX5_markBytes_23 ?_
  refine jr_aload_n C 1 rfl rfl dX5_markBytes_24 ?_
  refine jr_iconst C ic_2 dX5_markBytes_25 ?_
  refine jr_aload_n C 1 rfl rfl dX5_markBytes_26 ?_
  refine jr_getR C FX_5 6 (oM_0 hB).1 (oM_0 hB).2 ff_5_6.1 ff_5_6.2 (rM_0_6 _ hB) fl_X5_46 dX5_markBytes_27 ?_
  refine jr_bind (fun q7 e8 => ?_)
  refine jr_callVV C FX_5 km_X5_259 (oM_0 hB).1 (oM_0 hB).2 (rk hR rfl) (c_Ma_reportShade (gl G) hB (dM_34 hB) 2 q3 e8) rfl rfl rfl (Nat.le_of_ble_eq_true rfl) dX5_markBytes_30 ?_
  refine jr_aload_n C 1 rfl rfl dX5_markBytes_33 ?_
  refine jr_iconst C ic_5 dX5_markBytes_34 ?_
  refine jr_aload_n C 1 rfl rfl dX5_markBytes_35 ?_
  refine jr_getR C FX_5 7 (oM_0 hB).1 (oM_0 hB).2 ff_5_7.1 ff_5_7.2 (rM_0_7 _ hB) fl_X5_50 dX5_markBytes_36 ?_
  refine jr_bind (fun q9 e10 => ?_)
  refine jr_callVV C FX_5 km_X5_259 (oM_0 hB).1 (oM_0 hB).2 (rk hR rfl) (c_Ma_reportShade (gl G) hB (dM_35 hB) 5 q7 e10) rfl rfl rfl (Nat.le_of_ble_eq_true rfl) dX5_markBytes_39 ?_
  refine jr_iload_n C 0 rfl rfl dX5_markBytes_42 ?_
  refine jr_if_lt C (tgt := 72) dX5_markBytes_43 (by decide) (fun h11 => ?_) (fun h11 => ?_)
  · refine jo_pos h11 ?_
    refine jr_lv [1] rfl ?_
    exact t_Ma_markBytes_J72 G hR hL C hB  q9 hr
  refine jo_neg h11 ?_
  refine jr_iload_n C 0 rfl rfl dX5_markBytes_46 ?_
  refine jr_iconst C ic_2 dX5_markBytes_47 ?_
  refine jr_icmp_gt C (tgt := 72) dX5_markBytes_48 (by decide) (fun h14 => ?_) (fun h14 => ?_)
  · refine jo_pos h14 ?_
    refine jr_lv [1] rfl ?_
    exact t_Ma_markBytes_J72 G hR hL C hB  q9 hr
  refine jo_neg h14 ?_
  refine jr_aload_n C 1 rfl rfl dX5_markBytes_51 ?_
  refine jr_aload_n C 1 rfl rfl dX5_markBytes_52 ?_
  refine jr_getR C FX_5 6 (oM_0 hB).1 (oM_0 hB).2 ff_5_6.1 ff_5_6.2 (rM_0_6 _ hB) fl_X5_46 dX5_markBytes_53 ?_
  refine jr_getI C FX_1 0 (oD (dM_34 hB)).1 (oD (dM_34 hB)).2 ff_1_0.1 ff_1_0.2 fl_X5_232 dX5_markBytes_56 ?_
  refine jr_aload_n C 1 rfl rfl dX5_markBytes_59 ?_
  refine jr_getR C FX_5 7 (oM_0 hB).1 (oM_0 hB).2 ff_5_7.1 ff_5_7.2 (rM_0_7 _ hB) fl_X5_50 dX5_markBytes_60 ?_
  refine jr_getI C FX_1 0 (oD (dM_35 hB)).1 (oD (dM_35 hB)).2 ff_1_0.1 ff_1_0.2 fl_X5_232 dX5_markBytes_63 ?_
  refine jr_callVI C FX_5 km_X5_354 (oM_0 hB).1 (oM_0 hB).2 (rk hR rfl) (c_Ma_isRange (gl G) hB (q9.1 (B + 34) 0) (q9.1 (B + 35) 0) q9) rfl rfl rfl (Nat.le_of_ble_eq_true rfl) dX5_markBytes_66 ?_
  refine jr_if_ne C (tgt := 78) dX5_markBytes_69 (by decide) (fun h15 => ?_) (fun h15 => ?_)
  · refine jo_neg h15 ?_
    refine jr_aload_n C 1 rfl rfl dX5_markBytes_78 ?_
    refine jr_getR C FX_5 1 (oM_0 hB).1 (oM_0 hB).2 ff_5_1.1 ff_5_1.2 (rM_0_1 _ hB) fl_X5_12 dX5_markBytes_79 ?_
    refine jr_aload_n C 1 rfl rfl dX5_markBytes_82 ?_
    refine jr_getR C FX_5 6 (oM_0 hB).1 (oM_0 hB).2 ff_5_6.1 ff_5_6.2 (rM_0_6 _ hB) fl_X5_46 dX5_markBytes_83 ?_
    refine jr_getI C FX_1 0 (oD (dM_34 hB)).1 (oD (dM_34 hB)).2 ff_1_0.1 ff_1_0.2 fl_X5_232 dX5_markBytes_86 ?_
    refine jr_aload_n C 1 rfl rfl dX5_markBytes_89 ?_
    refine jr_getR C FX_5 7 (oM_0 hB).1 (oM_0 hB).2 ff_5_7.1 ff_5_7.2 (rM_0_7 _ hB) fl_X5_50 dX5_markBytes_90 ?_
    refine jr_getI C FX_1 0 (oD (dM_35 hB)).1 (oD (dM_35 hB)).2 ff_1_0.1 ff_1_0.2 fl_X5_232 dX5_markBytes_93 ?_
    refine jr_bind (fun q16 e17 => ?_)
    refine jr_callVV C FX_6 km_X5_357 (oM_1 hB).1 (oM_1 hB).2 (rk hR rfl) (c_Me_noteMark (gl G) hB (q9.1 (B + 34) 0) (q9.1 (B + 35) 0) q9 e17) rfl rfl rfl (Nat.le_of_ble_eq_true rfl) dX5_markBytes_96 ?_
    refine jr_iload_n C 0 rfl rfl dX5_markBytes_99 ?_
    refine jr_if_ne C (tgt := 127) dX5_markBytes_100 (by decide) (fun h18 => ?_) (fun h18 => ?_)
    · refine jo_neg h18 ?_
      refine jr_iload_n C 0 rfl rfl dX5_markBytes_127 ?_
      refine jr_iconst C ic_1 dX5_markBytes_128 ?_
      refine jr_icmp_ne C (tgt := 170) dX5_markBytes_129 (by decide) (fun h19 => ?_) (fun h19 => ?_)
      · refine jo_neg h19 ?_
        refine jr_aload_n C 1 rfl rfl dX5_markBytes_170 ?_
        refine jr_getR C FX_5 1 (oM_0 hB).1 (oM_0 hB).2 ff_5_1.1 ff_5_1.2 (rM_0_1 _ hB) fl_X5_12 dX5_markBytes_171 ?_
        refine jr_aload_n C 1 rfl rfl dX5_markBytes_174 ?_
        refine jr_getR C FX_5 6 (oM_0 hB).1 (oM_0 hB).2 ff_5_6.1 ff_5_6.2 (rM_0_6 _ hB) fl_X5_46 dX5_markBytes_175 ?_
        refine jr_getI C FX_1 0 (oD (dM_34 hB)).1 (oD (dM_34 hB)).2 ff_1_0.1 ff_1_0.2 fl_X5_232 dX5_markBytes_178 ?_
        refine jr_aload_n C 1 rfl rfl dX5_markBytes_181 ?_
        refine jr_getR C FX_5 7 (oM_0 hB).1 (oM_0 hB).2 ff_5_7.1 ff_5_7.2 (rM_0_7 _ hB) fl_X5_50 dX5_markBytes_182 ?_
        refine jr_getI C FX_1 0 (oD (dM_35 hB)).1 (oD (dM_35 hB)).2 ff_1_0.1 ff_1_0.2 fl_X5_232 dX5_markBytes_185 ?_
        refine jr_bind (fun q20 e21 => ?_)
        refine jr_callVV C FX_6 km_X5_360 (oM_1 hB).1 (oM_1 hB).2 (rk hR rfl) (c_Me_setAsTheyAre (gl G) hB (q16.1 (B + 34) 0) (q16.1 (B + 35) 0) q16 e21) rfl rfl rfl (Nat.le_of_ble_eq_true rfl) dX5_markBytes_188 ?_
        exact jr_end (fun h => hr q20 h _ _ dX5_markBytes_191)
      refine jo_pos h19 ?_
      refine jr_aload_n C 1 rfl rfl dX5_markBytes_132 ?_
      refine jr_getR C FX_5 1 (oM_0 hB).1 (oM_0 hB).2 ff_5_1.1 ff_5_1.2 (rM_0_1 _ hB) fl_X5_12 dX5_markBytes_133 ?_
      refine jr_aload_n C 1 rfl rfl dX5_markBytes_136 ?_
      refine jr_getR C FX_5 6 (oM_0 hB).1 (oM_0 hB).2 ff_5_6.1 ff_5_6.2 (rM_0_6 _ hB) fl_X5_46 dX5_markBytes_137 ?_
      refine jr_getI C FX_1 0 (oD (dM_34 hB)).1 (oD (dM_34 hB)).2 ff_1_0.1 ff_1_0.2 fl_X5_232 dX5_markBytes_140 ?_
      refine jr_aload_n C 1 rfl rfl dX5_markBytes_143 ?_
      refine jr_getR C FX_5 7 (oM_0 hB).1 (oM_0 hB).2 ff_5_7.1 ff_5_7.2 (rM_0_7 _ hB) fl_X5_50 dX5_markBytes_144 ?_
      refine jr_getI C FX_1 0 (oD (dM_35 hB)).1 (oD (dM_35 hB)).2 ff_1_0.1 ff_1_0.2 fl_X5_232 dX5_markBytes_147 ?_
      refine jr_sipush C sp_256 dX5_markBytes_150 ?_
      refine jr_aload_n C 1 rfl rfl dX5_markBytes_153 ?_
      refine jr_getI C FX_5 9 (oM_0 hB).1 (oM_0 hB).2 ff_5_9.1 ff_5_9.2 fl_X5_108 dX5_markBytes_154 ?_
      refine jr_sipush C sp_255 dX5_markBytes_157 ?_
      refine jr_min C km_X5_331 (rk2 hR rfl) (Nat.le_of_ble_eq_true rfl) dX5_markBytes_160 ?_
      refine jr_ltI (fun x22 => ?_)
      refine jr_iadd C dX5_markBytes_163 ?_
      refine jr_bind (fun q23 e24 => ?_)
      refine jr_callVV C FX_6 km_X5_310 (oM_1 hB).1 (oM_1 hB).2 (rk hR rfl) (c_Me_unset (gl G) hB (q16.1 (B + 34) 0) (q16.1 (B + 35) 0) (256 + x22) q16 e24) rfl rfl rfl (Nat.le_of_ble_eq_true rfl) dX5_markBytes_164 ?_
      refine jr_goto C (tgt := 191) dX5_markBytes_167 (by decide) ?_
      exact jr_end (fun h => hr q23 h _ _ dX5_markBytes_191)
    refine jo_pos h18 ?_
    refine jr_aload_n C 1 rfl rfl dX5_markBytes_103 ?_
    refine jr_getR C FX_5 1 (oM_0 hB).1 (oM_0 hB).2 ff_5_1.1 ff_5_1.2 (rM_0_1 _ hB) fl_X5_12 dX5_markBytes_104 ?_
    refine jr_aload_n C 1 rfl rfl dX5_markBytes_107 ?_
    refine jr_getR C FX_5 6 (oM_0 hB).1 (oM_0 hB).2 ff_5_6.1 ff_5_6.2 (rM_0_6 _ hB) fl_X5_46 dX5_markBytes_108 ?_
    refine jr_getI C FX_1 0 (oD (dM_34 hB)).1 (oD (dM_34 hB)).2 ff_1_0.1 ff_1_0.2 fl_X5_232 dX5_markBytes_111 ?_
    refine jr_aload_n C 1 rfl rfl dX5_markBytes_114 ?_
    refine jr_getR C FX_5 7 (oM_0 hB).1 (oM_0 hB).2 ff_5_7.1 ff_5_7.2 (rM_0_7 _ hB) fl_X5_50 dX5_markBytes_115 ?_
    refine jr_getI C FX_1 0 (oD (dM_35 hB)).1 (oD (dM_35 hB)).2 ff_1_0.1 ff_1_0.2 fl_X5_232 dX5_markBytes_118 ?_
    refine jr_bind (fun q25 e26 => ?_)
    refine jr_callVV C FX_6 km_X5_325 (oM_1 hB).1 (oM_1 hB).2 (rk hR rfl) (c_Me_close (gl G) hB (q16.1 (B + 34) 0) (q16.1 (B + 35) 0) q16 e26) rfl rfl rfl (Nat.le_of_ble_eq_true rfl) dX5_markBytes_121 ?_
    refine jr_goto C (tgt := 191) dX5_markBytes_124 (by decide) ?_
    exact jr_end (fun h => hr q25 h _ _ dX5_markBytes_191)
  refine jo_pos h15 ?_
  refine jr_lv [1] rfl ?_
  exact t_Ma_markBytes_J72 G hR hL C hB  q9 hr
set_option maxRecDepth 100000 in
theorem c_Ma_markBytes (l : Launch) {B : Nat} (hB : isM B)  (s : St) {q : St} (h : f_Ma_markBytes B s = some q) : CT SC l yX5_markBytes cX5_markBytes 2 none 4 88 (fun a => [.ref (a B)]) s q (fun _ => none) :=
  ct_V okX_C (by decide) (fun _ => Nat.le_of_ble_eq_true rfl) (fun G hl hR hL C hr => t_Ma_markBytes G hR hL C (Acc := fun v => v = q) hB  s (fun v hv => by rw [hv]; exact hr) ⟨_, h, rfl⟩)
noncomputable def f_Me_firstDoubtful_L2 (B : Nat) (v1 : Int32) (v2 : Int32) (v3 : Int32) (s : St) : Option (Int32 ⊕ (Int32 ⊕ Int32)) :=
  if v2 ≤ v3 then
  some (.inr (.inl v3))
  else
  if (f_Me_isByte (v1 + v3)) = 0 then
  some (.inr (.inl v3))
  else
  gd (v1 + v3) 4096 <|
  if (s.1 (B + 5) ((v1 + v3) : Int32).toNatClampNeg) = 0 then
  some (.inr (.inr (v1 + v3)))
  else
  gd (v1 + v3) 4096 <|
  if (s.1 (B + 3) ((v1 + v3) : Int32).toNatClampNeg) = 0 then
  some (.inl (v3 + 1))
  else
  some (.inr (.inr (v1 + v3)))
set_option maxHeartbeats 4000000 in
set_option maxRecDepth 100000 in
theorem t_Me_firstDoubtful_L2 (G : GG) (hR : gR G = rmx 1 20) (hL : gL G = 4) (C : Cx SC G cX6_firstDoubtful RX6) {Acc : (Int32 ⊕ (Int32 ⊕ Int32)) → Prop} {B : Nat} (hB : isM B) (v1 : Int32) (v2 : Int32) (v3 : Int32) (s : St) (hb1 : ∀ (a3 : Int32), Acc (.inl a3) → KK SC G 2 [(0, .ref (ad G (B + 1))), (1, .int v1), (2, .int v2), (3, .int a3)] [] s) (hx1 : ∀ (a3 : Int32), Acc (.inr (.inl a3)) → KK SC G 48 [(0, .ref (ad G (B + 1))), (1, .int v1), (2, .int v2), (3, .int a3)] [] s) (hr : ∀ v : Int32, Acc (.inr (.inr v)) → RtI SC G cX6_firstDoubtful v s) : JJ SC G Acc (f_Me_firstDoubtful_L2 B v1 v2 v3 s) 2 [(0, .ref (ad G (B + 1))), (1, .int v1), (2, .int v2), (3, .int v3)] [] s := by
  unfold f_Me_firstDoubtful_L2
  refine jr_iload_n C 3 rfl rfl dX6_firstDoubtful_2 ?_
  refine jr_iload_n C 2 rfl rfl dX6_firstDoubtful_3 ?_
  refine jr_icmp_ge C (tgt := 48) dX6_firstDoubtful_4 (by decide) (fun h1 => ?_) (fun h1 => ?_)
  · refine jo_pos h1 ?_
    exact jr_end (fun h => hx1 v3 h)
  refine jo_neg h1 ?_
  refine jr_iload_n C 1 rfl rfl dX6_firstDoubtful_7 ?_
  refine jr_iload_n C 3 rfl rfl dX6_firstDoubtful_8 ?_
  refine jr_iadd C dX6_firstDoubtful_9 ?_
  refine jr_callSI C km_X6_35 (rk hR rfl) (c_Me_isByte (gl G) isM_20 (v1 + v3) s) rfl rfl rfl (Nat.le_of_ble_eq_true rfl) dX6_firstDoubtful_10 ?_
  refine jr_if_eq C (tgt := 48) dX6_firstDoubtful_13 (by decide) (fun h2 => ?_) (fun h2 => ?_)
  · refine jo_pos h2 ?_
    exact jr_end (fun h => hx1 v3 h)
  refine jo_neg h2 ?_
  refine jr_aload_n C 0 rfl rfl dX6_firstDoubtful_16 ?_
  refine jr_getR C FX_6 3 (oM_1 hB).1 (oM_1 hB).2 ff_6_3.1 ff_6_3.2 (rM_1_3 _ hB) fl_X6_21 dX6_firstDoubtful_17 ?_
  refine jr_iload_n C 1 rfl rfl dX6_firstDoubtful_20 ?_
  refine jr_iload_n C 3 rfl rfl dX6_firstDoubtful_21 ?_
  refine jr_iadd C dX6_firstDoubtful_22 ?_
  refine jr_zald C (oM_5 hB).1 (oM_5 hB).2.1 (oM_5 hB).2.2 dX6_firstDoubtful_23 ?_
  refine jr_if_eq C (tgt := 38) dX6_firstDoubtful_24 (by decide) (fun h3 => ?_) (fun h3 => ?_)
  · refine jo_pos h3 ?_
    refine jr_iload_n C 1 rfl rfl dX6_firstDoubtful_38 ?_
    refine jr_iload_n C 3 rfl rfl dX6_firstDoubtful_39 ?_
    refine jr_iadd C dX6_firstDoubtful_40 ?_
    exact jr_end (fun h => hr (v1 + v3) h _ _ dX6_firstDoubtful_41)
  refine jo_neg h3 ?_
  refine jr_aload_n C 0 rfl rfl dX6_firstDoubtful_27 ?_
  refine jr_getR C FX_6 1 (oM_1 hB).1 (oM_1 hB).2 ff_6_1.1 ff_6_1.2 (rM_1_1 _ hB) fl_X6_15 dX6_firstDoubtful_28 ?_
  refine jr_iload_n C 1 rfl rfl dX6_firstDoubtful_31 ?_
  refine jr_iload_n C 3 rfl rfl dX6_firstDoubtful_32 ?_
  refine jr_iadd C dX6_firstDoubtful_33 ?_
  refine jr_iald C (oM_3 hB).1 (oM_3 hB).2.1 (oM_3 hB).2.2 dX6_firstDoubtful_34 ?_
  refine jr_if_eq C (tgt := 42) dX6_firstDoubtful_35 (by decide) (fun h4 => ?_) (fun h4 => ?_)
  · refine jo_pos h4 ?_
    refine jr_iinc C 3 rfl ii_1 (lv' := [(3, .int (v3 + 1)), (0, .ref (ad G (B + 1))), (1, .int v1), (2, .int v2)]) (ltL hL rfl) rfl dX6_firstDoubtful_42 ?_
    refine jr_goto C (tgt := 2) dX6_firstDoubtful_45 (by decide) ?_
    refine jr_lv [1, 2, 3, 0] rfl ?_
    exact jr_end (fun h => hb1 (v3 + 1) h)
  refine jo_neg h4 ?_
  refine jr_iload_n C 1 rfl rfl dX6_firstDoubtful_38 ?_
  refine jr_iload_n C 3 rfl rfl dX6_firstDoubtful_39 ?_
  refine jr_iadd C dX6_firstDoubtful_40 ?_
  exact jr_end (fun h => hr (v1 + v3) h _ _ dX6_firstDoubtful_41)
noncomputable def f_Me_firstDoubtful (B : Nat) (v1 : Int32) (v2 : Int32) (s : St) : Option Int32 :=
  (wh (fun a : Int32 => f_Me_firstDoubtful_L2 B v1 v2 a s) 0).bind (Sum.elim (fun b5 =>
  some (-1)) some)
set_option maxHeartbeats 4000000 in
set_option maxRecDepth 100000 in
theorem t_Me_firstDoubtful (G : GG) (hR : gR G = rmx 1 20) (hL : gL G = 4) (C : Cx SC G cX6_firstDoubtful RX6) {Acc : Int32 → Prop} {B : Nat} (hB : isM B) (v1 : Int32) (v2 : Int32) (s : St) (hr : ∀ v : Int32, Acc v → RtI SC G cX6_firstDoubtful v s) : JJ SC G Acc (f_Me_firstDoubtful B v1 v2 s) 0 [(0, .ref (ad G (B + 1))), (1, .int v1), (2, .int v2)] [] s := by
  unfold f_Me_firstDoubtful
  refine jr_iconst C ic_0 dX6_firstDoubtful_0 ?_
  refine jr_istore_n C (lv' := [(3, .int 0), (0, .ref (ad G (B + 1))), (1, .int v1), (2, .int v2)]) (ltL hL rfl) rfl rfl dX6_firstDoubtful_1 ?_
  refine jr_lv [1, 2, 3, 0] rfl ?_
  refine jr_loopE (pc := 2) (pcx := 48) (f := fun a : Int32 => f_Me_firstDoubtful_L2 B v1 v2 a s) (fun a : Int32 => [(0, .ref (ad G (B + 1))), (1, .int v1), (2, .int v2), (3, .int a)]) (fun a : Int32 => s) 0 (fun a => t_Me_firstDoubtful_L2 G hR hL C hB v1 v2 a s (fun _ h => h) (fun _ h => h) hr) (fun b5 => ?_)
  refine jr_iconst C ic_m1 dX6_firstDoubtful_48 ?_
  exact jr_end (fun h => hr (-1) h _ _ dX6_firstDoubtful_49)
set_option maxRecDepth 100000 in
theorem c_Me_firstDoubtful (l : Launch) {B : Nat} (hB : isM B) (v1 : Int32) (v2 : Int32) (s : St) {q : Int32} (h : f_Me_firstDoubtful B v1 v2 s = some q) : CT SC l yX6_firstDoubtful cX6_firstDoubtful 4 (some .int) 1 20 (fun a => [.ref (a (B + 1)), .int v1, .int v2]) s s (fun _ => some (.int q)) :=
  ct_I okX_C (by decide) (fun _ => Nat.le_of_ble_eq_true rfl) (fun G hl hR hL C hr => t_Me_firstDoubtful G hR hL C (Acc := fun v => v = q) hB v1 v2 s (fun v hv => by rw [hv]; exact hr) ⟨_, h, rfl⟩)
noncomputable def f_Ma_look (B : Nat) (s : St) : Option St :=
  (f_Ma_takeRegister B (B + 34) 1 s).bind fun q1 =>
  (f_Ma_takeEither B (B + 35) 2 q1).bind fun q3 =>
  (f_Ma_reportShade B (B + 34) 2 q3).bind fun q5 =>
  (f_Ma_reportShade B (B + 35) 5 q5).bind fun q7 =>
  if (f_Ma_isRange (q7.1 (B + 34) 0) (q7.1 (B + 35) 0)) = 0 then
  ((f_Ma_trap B 4 q7).bind fun q16 =>
  some q16)
  else
  (f_Ma_operand B 0 q7).bind fun q10 =>
  (f_Me_firstDoubtful B (q7.1 (B + 34) 0) (q7.1 (B + 35) 0) q7).bind fun q12 =>
  (f_Ma_give B q10 q12 0 0 q7).bind fun q14 =>
  some q14
set_option maxHeartbeats 4000000 in
set_option maxRecDepth 100000 in
theorem t_Ma_look (G : GG) (hR : gR G = rmx 4 99) (hL : gL G = 1) (C : Cx SC G cX5_look RX5) {Acc : St → Prop} {B : Nat} (hB : isM B)  (s : St) (hr : ∀ v : St, Acc v → RtV SC G cX5_look v) : JJ SC G Acc (f_Ma_look B s) 0 [(0, .ref (ad G B))] [] s := by
  unfold f_Ma_look
  refine jr_aload_n C 0 rfl rfl dX5_look_0 ?_
  refine jr_aload_n C 0 rfl rfl dX5_look_1 ?_
  refine jr_getR C FX_5 6 (oM_0 hB).1 (oM_0 hB).2 ff_5_6.1 ff_5_6.2 (rM_0_6 _ hB) fl_X5_46 dX5_look_2 ?_
  refine jr_iconst C ic_1 dX5_look_5 ?_
  refine jr_bind (fun q1 e2 => ?_)
  refine jr_callVV C FX_5 km_X5_225 (oM_0 hB).1 (oM_0 hB).2 (rk hR rfl) (c_Ma_takeRegister (gl G) hB (dM_34 hB) 1 s e2) rfl rfl rfl (Nat.le_of_ble_eq_true rfl) dX5_look_6 ?_
  refine jr_aload_n C 0 rfl rfl dX5_look_9 ?_
  refine jr_aload_n C 0 rfl rfl dX5_look_10 ?_
  refine jr_getR C FX_5 7 (oM_0 hB).1 (oM_0 hB).2 ff_5_7.1 ff_5_7.2 (rM_0_7 _ hB) fl_X5_50 dX5_look_11 ?_
  refine jr_iconst C ic_2 dX5_look_14 ?_
  refine jr_bind (fun q3 e4 => ?_)
  refine jr_callVV C FX_5 km_X5_256 (oM_0 hB).1 (oM_0 hB).2 (rk hR rfl) (c_Ma_takeEither (gl G) hB (dM_35 hB) 2 q1 e4) rfl rfl rfl (Nat.le_of_ble_eq_true rfl) dX5_look_15 ?_
  refine jr_aload_n C 0 rfl rfl dX5_look_18 ?_
  refine jr_iconst C ic_2 dX5_look_19 ?_
  refine jr_aload_n C 0 rfl rfl dX5_look_20 ?_
  refine jr_getR C FX_5 6 (oM_0 hB).1 (oM_0 hB).2 ff_5_6.1 ff_5_6.2 (rM_0_6 _ hB) fl_X5_46 dX5_look_21 ?_
  refine jr_bind (fun q5 e6 => ?_)
  refine jr_callVV C FX_5 km_X5_259 (oM_0 hB).1 (oM_0 hB).2 (rk hR rfl) (c_Ma_reportShade (gl G) hB (dM_34 hB) 2 q3 e6) rfl rfl rfl (Nat.le_of_ble_eq_true rfl) dX5_look_24 ?_
  refine jr_aload_n C 0 rfl rfl dX5_look_27 ?_
  refine jr_iconst C ic_5 dX5_look_28 ?_
  refine jr_aload_n C 0 rfl rfl dX5_look_29 ?_
  refine jr_getR C FX_5 7 (oM_0 hB).1 (oM_0 hB).2 ff_5_7.1 ff_5_7.2 (rM_0_7 _ hB) fl_X5_50 dX5_look_30 ?_
  refine jr_bind (fun q7 e8 => ?_)
  refine jr_callVV C FX_5 km_X5_259 (oM_0 hB).1 (oM_0 hB).2 (rk hR rfl) (c_Ma_reportShade (gl G) hB (dM_35 hB) 5 q5 e8) rfl rfl rfl (Nat.le_of_ble_eq_true rfl) dX5_look_33 ?_
  refine jr_aload_n C 0 rfl rfl dX5_look_36 ?_
  refine jr_aload_n C 0 rfl rfl dX5_look_37 ?_
  refine jr_getR C FX_5 6 (oM_0 hB).1 (oM_0 hB).2 ff_5_6.1 ff_5_6.2 (rM_0_6 _ hB) fl_X5_46 dX5_look_38 ?_
  refine jr_getI C FX_1 0 (oD (dM_34 hB)).1 (oD (dM_34 hB)).2 ff_1_0.1 ff_1_0.2 fl_X5_232 dX5_look_41 ?_
  refine jr_aload_n C 0 rfl rfl dX5_look_44 ?_
  refine jr_getR C FX_5 7 (oM_0 hB).1 (oM_0 hB).2 ff_5_7.1 ff_5_7.2 (rM_0_7 _ hB) fl_X5_50 dX5_look_45 ?_
  refine jr_getI C FX_1 0 (oD (dM_35 hB)).1 (oD (dM_35 hB)).2 ff_1_0.1 ff_1_0.2 fl_X5_232 dX5_look_48 ?_
  refine jr_callVI C FX_5 km_X5_354 (oM_0 hB).1 (oM_0 hB).2 (rk hR rfl) (c_Ma_isRange (gl G) hB (q7.1 (B + 34) 0) (q7.1 (B + 35) 0) q7) rfl rfl rfl (Nat.le_of_ble_eq_true rfl) dX5_look_51 ?_
  refine jr_if_ne C (tgt := 63) dX5_look_54 (by decide) (fun h9 => ?_) (fun h9 => ?_)
  · refine jo_neg h9 ?_
    refine jr_aload_n C 0 rfl rfl dX5_look_63 ?_
    refine jr_aload_n C 0 rfl rfl dX5_look_64 ?_
    refine jr_iconst C ic_0 dX5_look_65 ?_
    refine jr_bind (fun q10 e11 => ?_)
    refine jr_callVI C FX_5 km_X5_209 (oM_0 hB).1 (oM_0 hB).2 (rk hR rfl) (c_Ma_operand (gl G) hB 0 q7 e11) rfl rfl rfl (Nat.le_of_ble_eq_true rfl) dX5_look_66 ?_
    refine jr_aload_n C 0 rfl rfl dX5_look_69 ?_
    refine jr_getR C FX_5 1 (oM_0 hB).1 (oM_0 hB).2 ff_5_1.1 ff_5_1.2 (rM_0_1 _ hB) fl_X5_12 dX5_look_70 ?_
    refine jr_aload_n C 0 rfl rfl dX5_look_73 ?_
    refine jr_getR C FX_5 6 (oM_0 hB).1 (oM_0 hB).2 ff_5_6.1 ff_5_6.2 (rM_0_6 _ hB) fl_X5_46 dX5_look_74 ?_
    refine jr_getI C FX_1 0 (oD (dM_34 hB)).1 (oD (dM_34 hB)).2 ff_1_0.1 ff_1_0.2 fl_X5_232 dX5_look_77 ?_
    refine jr_aload_n C 0 rfl rfl dX5_look_80 ?_
    refine jr_getR C FX_5 7 (oM_0 hB).1 (oM_0 hB).2 ff_5_7.1 ff_5_7.2 (rM_0_7 _ hB) fl_X5_50 dX5_look_81 ?_
    refine jr_getI C FX_1 0 (oD (dM_35 hB)).1 (oD (dM_35 hB)).2 ff_1_0.1 ff_1_0.2 fl_X5_232 dX5_look_84 ?_
    refine jr_bind (fun q12 e13 => ?_)
    refine jr_callVI C FX_6 km_X5_363 (oM_1 hB).1 (oM_1 hB).2 (rk hR rfl) (c_Me_firstDoubtful (gl G) hB (q7.1 (B + 34) 0) (q7.1 (B + 35) 0) q7 e13) rfl rfl rfl (Nat.le_of_ble_eq_true rfl) dX5_look_87 ?_
    refine jr_iconst C ic_0 dX5_look_90 ?_
    refine jr_iconst C ic_0 dX5_look_91 ?_
    refine jr_bind (fun q14 e15 => ?_)
    refine jr_callVV C FX_5 km_X5_275 (oM_0 hB).1 (oM_0 hB).2 (rk hR rfl) (c_Ma_give (gl G) hB q10 q12 0 0 q7 e15) rfl rfl rfl (Nat.le_of_ble_eq_true rfl) dX5_look_92 ?_
    exact jr_end (fun h => hr q14 h _ _ dX5_look_95)
  refine jo_pos h9 ?_
  refine jr_aload_n C 0 rfl rfl dX5_look_57 ?_
  refine jr_iconst C ic_4 dX5_look_58 ?_
  refine jr_bind (fun q16 e17 => ?_)
  refine jr_callVV C FX_5 km_X5_229 (oM_0 hB).1 (oM_0 hB).2 (rk hR rfl) (c_Ma_trap (gl G) hB 4 q7 e17) rfl rfl rfl (Nat.le_of_ble_eq_true rfl) dX5_look_59 ?_
  exact jr_end (fun h => hr q16 h _ _ dX5_look_62)
set_option maxRecDepth 100000 in
theorem c_Ma_look (l : Launch) {B : Nat} (hB : isM B)  (s : St) {q : St} (h : f_Ma_look B s = some q) : CT SC l yX5_look cX5_look 1 none 4 99 (fun a => [.ref (a B)]) s q (fun _ => none) :=
  ct_V okX_C (by decide) (fun _ => Nat.le_of_ble_eq_true rfl) (fun G hl hR hL C hr => t_Ma_look G hR hL C (Acc := fun v => v = q) hB  s (fun v hv => by rw [hv]; exact hr) ⟨_, h, rfl⟩)
noncomputable def f_Ma_performWide_J74 (B : Nat) (v1 : Int32) (s : St) : Option St :=
  (f_Ma_allot B v1 s).bind fun q8 =>
  some q8
set_option maxHeartbeats 4000000 in
set_option maxRecDepth 100000 in
theorem t_Ma_performWide_J74 (G : GG) (hR : gR G = rmx 5 122) (hL : gL G = 2) (C : Cx SC G cX5_performWide RX5) {Acc : St → Prop} {B : Nat} (hB : isM B) (v1 : Int32) (s : St) (hr : ∀ v : St, Acc v → RtV SC G cX5_performWide v) : JJ SC G Acc (f_Ma_performWide_J74 B v1 s) 74 [(0, .ref (ad G B)), (1, .int v1)] [] s := by
  unfold f_Ma_performWide_J74
  refine jr_aload_n C 0 rfl rfl dX5_performWide_74 ?_
  refine jr_iload_n C 1 rfl rfl dX5_performWide_75 ?_
  refine jr_bind (fun q8 e9 => ?_)
  refine jr_callVV C FX_5 km_X5_179 (oM_0 hB).1 (oM_0 hB).2 (rk hR rfl) (c_Ma_allot (gl G) hB v1 s e9) rfl rfl rfl (Nat.le_of_ble_eq_true rfl) dX5_performWide_76 ?_
  refine jr_goto C (tgt := 135) dX5_performWide_79 (by decide) ?_
  exact jr_end (fun h => hr q8 h _ _ dX5_performWide_135)
noncomputable def f_Ma_performWide (B : Nat) (v1 : Int32) (s : St) : Option St :=
  if v1 = 39 then
  ((f_Ma_push B s).bind fun q2 =>
  some q2)
  else if v1 = 40 then
  ((f_Ma_pop B s).bind fun q5 =>
  some q5)
  else if v1 = 41 then
  f_Ma_performWide_J74 B v1 s
  else if v1 = 42 then
  f_Ma_performWide_J74 B v1 s
  else if v1 = 43 then
  ((f_Ma_grow B s).bind fun q12 =>
  some q12)
  else if v1 = 44 then
  ((f_Ma_giveBack B s).bind fun q15 =>
  some q15)
  else if v1 = 45 then
  ((f_Ma_copyBytes B s).bind fun q18 =>
  some q18)
  else if v1 = 46 then
  ((f_Ma_fillBytes B s).bind fun q21 =>
  some q21)
  else if v1 = 47 then
  ((f_Ma_readInput B s).bind fun q24 =>
  some q24)
  else if v1 = 48 then
  ((f_Ma_putOut B s).bind fun q27 =>
  some q27)
  else if v1 = 49 then
  ((f_Ma_markBytes B s).bind fun q30 =>
  some q30)
  else (f_Ma_look B s).bind fun q32 =>
  some q32
set_option maxHeartbeats 4000000 in
set_option maxRecDepth 100000 in
theorem t_Ma_performWide (G : GG) (hR : gR G = rmx 5 122) (hL : gL G = 2) (C : Cx SC G cX5_performWide RX5) {Acc : St → Prop} {B : Nat} (hB : isM B) (v1 : Int32) (s : St) (hr : ∀ v : St, Acc v → RtV SC G cX5_performWide v) : JJ SC G Acc (f_Ma_performWide B v1 s) 0 [(0, .ref (ad G B)), (1, .int v1)] [] s := by
  unfold f_Ma_performWide
  refine jr_iload_n C 1 rfl rfl dX5_performWide_0 ?_
  refine jo_cases (fun h1 => ?_) (fun h1 => ?_)
  · refine jr_tabIn C dX5_performWide_1 h1 (by decide) (by decide) rfl (tgt := 60) (by decide) ?_
    refine jr_aload_n C 0 rfl rfl dX5_performWide_60 ?_
    refine jr_bind (fun q2 e3 => ?_)
    refine jr_callVV C FX_5 km_X5_173 (oM_0 hB).1 (oM_0 hB).2 (rk hR rfl) (c_Ma_push (gl G) hB s e3) rfl rfl rfl (Nat.le_of_ble_eq_true rfl) dX5_performWide_61 ?_
    refine jr_goto C (tgt := 135) dX5_performWide_64 (by decide) ?_
    exact jr_end (fun h => hr q2 h _ _ dX5_performWide_135)
  refine jo_cases (fun h4 => ?_) (fun h4 => ?_)
  · refine jr_tabIn C dX5_performWide_1 h4 (by decide) (by decide) rfl (tgt := 67) (by decide) ?_
    refine jr_aload_n C 0 rfl rfl dX5_performWide_67 ?_
    refine jr_bind (fun q5 e6 => ?_)
    refine jr_callVV C FX_5 km_X5_176 (oM_0 hB).1 (oM_0 hB).2 (rk hR rfl) (c_Ma_pop (gl G) hB s e6) rfl rfl rfl (Nat.le_of_ble_eq_true rfl) dX5_performWide_68 ?_
    refine jr_goto C (tgt := 135) dX5_performWide_71 (by decide) ?_
    exact jr_end (fun h => hr q5 h _ _ dX5_performWide_135)
  refine jo_cases (fun h7 => ?_) (fun h7 => ?_)
  · refine jr_tabIn C dX5_performWide_1 h7 (by decide) (by decide) rfl (tgt := 74) (by decide) ?_
    exact t_Ma_performWide_J74 G hR hL C hB v1 s hr
  refine jo_cases (fun h10 => ?_) (fun h10 => ?_)
  · refine jr_tabIn C dX5_performWide_1 h10 (by decide) (by decide) rfl (tgt := 74) (by decide) ?_
    exact t_Ma_performWide_J74 G hR hL C hB v1 s hr
  refine jo_cases (fun h11 => ?_) (fun h11 => ?_)
  · refine jr_tabIn C dX5_performWide_1 h11 (by decide) (by decide) rfl (tgt := 82) (by decide) ?_
    refine jr_aload_n C 0 rfl rfl dX5_performWide_82 ?_
    refine jr_bind (fun q12 e13 => ?_)
    refine jr_callVV C FX_5 km_X5_182 (oM_0 hB).1 (oM_0 hB).2 (rk hR rfl) (c_Ma_grow (gl G) hB s e13) rfl rfl rfl (Nat.le_of_ble_eq_true rfl) dX5_performWide_83 ?_
    refine jr_goto C (tgt := 135) dX5_performWide_86 (by decide) ?_
    exact jr_end (fun h => hr q12 h _ _ dX5_performWide_135)
  refine jo_cases (fun h14 => ?_) (fun h14 => ?_)
  · refine jr_tabIn C dX5_performWide_1 h14 (by decide) (by decide) rfl (tgt := 89) (by decide) ?_
    refine jr_aload_n C 0 rfl rfl dX5_performWide_89 ?_
    refine jr_bind (fun q15 e16 => ?_)
    refine jr_callVV C FX_5 km_X5_185 (oM_0 hB).1 (oM_0 hB).2 (rk hR rfl) (c_Ma_giveBack (gl G) hB s e16) rfl rfl rfl (Nat.le_of_ble_eq_true rfl) dX5_performWide_90 ?_
    refine jr_goto C (tgt := 135) dX5_performWide_93 (by decide) ?_
    exact jr_end (fun h => hr q15 h _ _ dX5_performWide_135)
  refine jo_cases (fun h17 => ?_) (fun h17 => ?_)
  · refine jr_tabIn C dX5_performWide_1 h17 (by decide) (by decide) rfl (tgt := 96) (by decide) ?_
    refine jr_aload_n C 0 rfl rfl dX5_performWide_96 ?_
    refine jr_bind (fun q18 e19 => ?_)
    refine jr_callVV C FX_5 km_X5_188 (oM_0 hB).1 (oM_0 hB).2 (rk hR rfl) (c_Ma_copyBytes (gl G) hB s e19) rfl rfl rfl (Nat.le_of_ble_eq_true rfl) dX5_performWide_97 ?_
    refine jr_goto C (tgt := 135) dX5_performWide_100 (by decide) ?_
    exact jr_end (fun h => hr q18 h _ _ dX5_performWide_135)
  refine jo_cases (fun h20 => ?_) (fun h20 => ?_)
  · refine jr_tabIn C dX5_performWide_1 h20 (by decide) (by decide) rfl (tgt := 103) (by decide) ?_
    refine jr_aload_n C 0 rfl rfl dX5_performWide_103 ?_
    refine jr_bind (fun q21 e22 => ?_)
    refine jr_callVV C FX_5 km_X5_191 (oM_0 hB).1 (oM_0 hB).2 (rk hR rfl) (c_Ma_fillBytes (gl G) hB s e22) rfl rfl rfl (Nat.le_of_ble_eq_true rfl) dX5_performWide_104 ?_
    refine jr_goto C (tgt := 135) dX5_performWide_107 (by decide) ?_
    exact jr_end (fun h => hr q21 h _ _ dX5_performWide_135)
  refine jo_cases (fun h23 => ?_) (fun h23 => ?_)
  · refine jr_tabIn C dX5_performWide_1 h23 (by decide) (by decide) rfl (tgt := 110) (by decide) ?_
    refine jr_aload_n C 0 rfl rfl dX5_performWide_110 ?_
    refine jr_bind (fun q24 e25 => ?_)
    refine jr_callVV C FX_5 km_X5_194 (oM_0 hB).1 (oM_0 hB).2 (rk hR rfl) (c_Ma_readInput (gl G) hB s e25) rfl rfl rfl (Nat.le_of_ble_eq_true rfl) dX5_performWide_111 ?_
    refine jr_goto C (tgt := 135) dX5_performWide_114 (by decide) ?_
    exact jr_end (fun h => hr q24 h _ _ dX5_performWide_135)
  refine jo_cases (fun h26 => ?_) (fun h26 => ?_)
  · refine jr_tabIn C dX5_performWide_1 h26 (by decide) (by decide) rfl (tgt := 117) (by decide) ?_
    refine jr_aload_n C 0 rfl rfl dX5_performWide_117 ?_
    refine jr_bind (fun q27 e28 => ?_)
    refine jr_callVV C FX_5 km_X5_197 (oM_0 hB).1 (oM_0 hB).2 (rk hR rfl) (c_Ma_putOut (gl G) hB s e28) rfl rfl rfl (Nat.le_of_ble_eq_true rfl) dX5_performWide_118 ?_
    refine jr_goto C (tgt := 135) dX5_performWide_121 (by decide) ?_
    exact jr_end (fun h => hr q27 h _ _ dX5_performWide_135)
  refine jo_cases (fun h29 => ?_) (fun h29 => ?_)
  · refine jr_tabIn C dX5_performWide_1 h29 (by decide) (by decide) rfl (tgt := 124) (by decide) ?_
    refine jr_aload_n C 0 rfl rfl dX5_performWide_124 ?_
    refine jr_bind (fun q30 e31 => ?_)
    refine jr_callVV C FX_5 km_X5_200 (oM_0 hB).1 (oM_0 hB).2 (rk hR rfl) (c_Ma_markBytes (gl G) hB s e31) rfl rfl rfl (Nat.le_of_ble_eq_true rfl) dX5_performWide_125 ?_
    refine jr_goto C (tgt := 135) dX5_performWide_128 (by decide) ?_
    exact jr_end (fun h => hr q30 h _ _ dX5_performWide_135)
  refine jr_tabOut C dX5_performWide_1 (by have e0 := lv_neT h1 (a := 39) (by decide); have e1 := lv_neT h4 (a := 40) (by decide); have e2 := lv_neT h7 (a := 41) (by decide); have e3 := lv_neT h10 (a := 42) (by decide); have e4 := lv_neT h11 (a := 43) (by decide); have e5 := lv_neT h14 (a := 44) (by decide); have e6 := lv_neT h17 (a := 45) (by decide); have e7 := lv_neT h20 (a := 46) (by decide); have e8 := lv_neT h23 (a := 47) (by decide); have e9 := lv_neT h26 (a := 48) (by decide); have e10 := lv_neT h29 (a := 49) (by decide); omega) (tgt := 131) (by decide) ?_
  refine jr_aload_n C 0 rfl rfl dX5_performWide_131 ?_
  refine jr_bind (fun q32 e33 => ?_)
  refine jr_callVV C FX_5 km_X5_203 (oM_0 hB).1 (oM_0 hB).2 (rk hR rfl) (c_Ma_look (gl G) hB s e33) rfl rfl rfl (Nat.le_of_ble_eq_true rfl) dX5_performWide_132 ?_
  exact jr_end (fun h => hr q32 h _ _ dX5_performWide_135)
set_option maxRecDepth 100000 in
theorem c_Ma_performWide (l : Launch) {B : Nat} (hB : isM B) (v1 : Int32) (s : St) {q : St} (h : f_Ma_performWide B v1 s = some q) : CT SC l yX5_performWide cX5_performWide 2 none 5 122 (fun a => [.ref (a B), .int v1]) s q (fun _ => none) :=
  ct_V okX_C (by decide) (fun _ => Nat.le_of_ble_eq_true rfl) (fun G hl hR hL C hr => t_Ma_performWide G hR hL C (Acc := fun v => v = q) hB v1 s (fun v hv => by rw [hv]; exact hr) ⟨_, h, rfl⟩)
noncomputable def f_Ma_advance_J71_1 (B : Nat) (v1 : Int32) (v2 : Int32) (s : St) : Option ((Int32 × St) ⊕ (Int32 × St)) :=
  some (.inl ((v2 + 1), s))
set_option maxHeartbeats 4000000 in
set_option maxRecDepth 100000 in
theorem t_Ma_advance_J71_1 (G : GG) (hR : gR G = rmx 6 143) (hL : gL G = 4) (C : Cx SC G cX5_advance RX5) {Acc : ((Int32 × St) ⊕ (Int32 × St)) → Prop} {B : Nat} (hB : isM B) (v1 : Int32) (v2 : Int32) (s : St) (hb1 : ∀ (a2 : Int32) (t : St), Acc (.inl (a2, t)) → KK SC G 2 [(0, .ref (ad G B)), (1, .int v1), (2, .int a2)] [] t) (hx1 : ∀ (a2 : Int32) (t : St), Acc (.inr (a2, t)) → KK SC G 77 [(0, .ref (ad G B)), (1, .int v1), (2, .int a2)] [] t) : JJ SC G Acc (f_Ma_advance_J71_1 B v1 v2 s) 71 [(0, .ref (ad G B)), (1, .int v1), (2, .int v2)] [] s := by
  unfold f_Ma_advance_J71_1
  refine jr_iinc C 2 rfl ii_1 (lv' := [(2, .int (v2 + 1)), (0, .ref (ad G B)), (1, .int v1)]) (ltL hL rfl) rfl dX5_advance_71 ?_
  refine jr_goto C (tgt := 2) dX5_advance_74 (by decide) ?_
  refine jr_lv [1, 2, 0] rfl ?_
  exact jr_end (fun h => hb1 (v2 + 1) s h)
noncomputable def f_Ma_advance_J56_1 (B : Nat) (v1 : Int32) (v2 : Int32) (s : St) : Option ((Int32 × St) ⊕ (Int32 × St)) :=
  if (s.1 B 11) = 0 then
  ((f_Ma_goTo B (s.1 B 10) s).bind fun q11 =>
  f_Ma_advance_J71_1 B v1 v2 q11)
  else
  f_Ma_advance_J71_1 B v1 v2 s
set_option maxHeartbeats 4000000 in
set_option maxRecDepth 100000 in
theorem t_Ma_advance_J56_1 (G : GG) (hR : gR G = rmx 6 143) (hL : gL G = 4) (C : Cx SC G cX5_advance RX5) {Acc : ((Int32 × St) ⊕ (Int32 × St)) → Prop} {B : Nat} (hB : isM B) (v1 : Int32) (v2 : Int32) (s : St) (hb1 : ∀ (a2 : Int32) (t : St), Acc (.inl (a2, t)) → KK SC G 2 [(0, .ref (ad G B)), (1, .int v1), (2, .int a2)] [] t) (hx1 : ∀ (a2 : Int32) (t : St), Acc (.inr (a2, t)) → KK SC G 77 [(0, .ref (ad G B)), (1, .int v1), (2, .int a2)] [] t) : JJ SC G Acc (f_Ma_advance_J56_1 B v1 v2 s) 56 [(0, .ref (ad G B)), (1, .int v1), (2, .int v2)] [] s := by
  unfold f_Ma_advance_J56_1
  refine jr_aload_n C 0 rfl rfl dX5_advance_56 ?_
  refine jr_getI C FX_5 11 (oM_0 hB).1 (oM_0 hB).2 ff_5_11.1 ff_5_11.2 fl_X5_102 dX5_advance_57 ?_
  refine jr_if_ne C (tgt := 71) dX5_advance_60 (by decide) (fun h10 => ?_) (fun h10 => ?_)
  · refine jo_neg h10 ?_
    exact t_Ma_advance_J71_1 G hR hL C hB v1 v2 s hb1 hx1
  refine jo_pos h10 ?_
  refine jr_aload_n C 0 rfl rfl dX5_advance_63 ?_
  refine jr_aload_n C 0 rfl rfl dX5_advance_64 ?_
  refine jr_getI C FX_5 10 (oM_0 hB).1 (oM_0 hB).2 ff_5_10.1 ff_5_10.2 fl_X5_119 dX5_advance_65 ?_
  refine jr_bind (fun q11 e12 => ?_)
  refine jr_callVV C FX_5 km_X5_105 (oM_0 hB).1 (oM_0 hB).2 (rk hR rfl) (c_Ma_goTo (gl G) hB (s.1 B 10) s e12) rfl rfl rfl (Nat.le_of_ble_eq_true rfl) dX5_advance_68 ?_
  exact t_Ma_advance_J71_1 G hR hL C hB v1 v2 q11 hb1 hx1
noncomputable def f_Ma_advance_L2 (B : Nat) (v1 : Int32) (v2 : Int32) (s : St) : Option ((Int32 × St) ⊕ (Int32 × St)) :=
  if v1 ≤ v2 then
  some (.inr (v2, s))
  else
  if (s.1 B 11) = 0 then
  (gP (s.2.2 (mq B)) fun p3 =>
  gd (s.1 B 9) 200 <|
  lt (s.1 (p3 + 1) ((s.1 B 9) : Int32).toNatClampNeg) fun x5 =>
  lt (uI s B 10 ((s.1 B 9) + 1)) fun s6 =>
  if 38 < x5 then
  ((f_Ma_performWide B x5 s6).bind fun q8 =>
  f_Ma_advance_J56_1 B v1 v2 q8)
  else
  (f_Ma_performPlain B x5 s6).bind fun q13 =>
  f_Ma_advance_J56_1 B v1 v2 q13)
  else
  some (.inr (v2, s))
set_option maxHeartbeats 4000000 in
set_option maxRecDepth 100000 in
theorem t_Ma_advance_L2 (G : GG) (hR : gR G = rmx 6 143) (hL : gL G = 4) (C : Cx SC G cX5_advance RX5) {Acc : ((Int32 × St) ⊕ (Int32 × St)) → Prop} {B : Nat} (hB : isM B) (v1 : Int32) (v2 : Int32) (s : St) (hb1 : ∀ (a2 : Int32) (t : St), Acc (.inl (a2, t)) → KK SC G 2 [(0, .ref (ad G B)), (1, .int v1), (2, .int a2)] [] t) (hx1 : ∀ (a2 : Int32) (t : St), Acc (.inr (a2, t)) → KK SC G 77 [(0, .ref (ad G B)), (1, .int v1), (2, .int a2)] [] t) : JJ SC G Acc (f_Ma_advance_L2 B v1 v2 s) 2 [(0, .ref (ad G B)), (1, .int v1), (2, .int v2)] [] s := by
  unfold f_Ma_advance_L2
  refine jr_iload_n C 2 rfl rfl dX5_advance_2 ?_
  refine jr_iload_n C 1 rfl rfl dX5_advance_3 ?_
  refine jr_icmp_ge C (tgt := 77) dX5_advance_4 (by decide) (fun h1 => ?_) (fun h1 => ?_)
  · refine jo_pos h1 ?_
    exact jr_end (fun h => hx1 v2 s h)
  refine jo_neg h1 ?_
  refine jr_aload_n C 0 rfl rfl dX5_advance_7 ?_
  refine jr_getI C FX_5 11 (oM_0 hB).1 (oM_0 hB).2 ff_5_11.1 ff_5_11.2 fl_X5_102 dX5_advance_8 ?_
  refine jr_if_ne C (tgt := 77) dX5_advance_11 (by decide) (fun h2 => ?_) (fun h2 => ?_)
  · refine jo_neg h2 ?_
    exact jr_end (fun h => hx1 v2 s h)
  refine jo_pos h2 ?_
  refine jr_aload_n C 0 rfl rfl dX5_advance_14 ?_
  refine jr_getP C FX_5 0 (oM_0 hB).1 (oM_0 hB).2 ff_5_0.1 ff_5_0.2 (fun hp => rM_p hB hp) fl_X5_60 dX5_advance_15 (fun p3 h4 => ?_)
  refine jr_getR C FX_7 0 (oP_0 h4).1 (oP_0 h4).2 ff_7_0.1 ff_7_0.2 (rP_0_0 _ h4) fl_X5_116 dX5_advance_18 ?_
  refine jr_aload_n C 0 rfl rfl dX5_advance_21 ?_
  refine jr_getI C FX_5 9 (oM_0 hB).1 (oM_0 hB).2 ff_5_9.1 ff_5_9.2 fl_X5_108 dX5_advance_22 ?_
  refine jr_iald C (oP_1 h4).1 (oP_1 h4).2.1 (oP_1 h4).2.2 dX5_advance_25 ?_
  refine jr_ltI (fun x5 => ?_)
  refine jr_istore_n C (lv' := [(3, .int x5), (0, .ref (ad G B)), (1, .int v1), (2, .int v2)]) (ltL hL rfl) rfl rfl dX5_advance_26 ?_
  refine jr_aload_n C 1 rfl rfl dX5_advance_27 ?_
  refine jr_aload_n C 1 rfl rfl dX5_advance_28 ?_
  refine jr_getI C FX_5 9 (oM_0 hB).1 (oM_0 hB).2 ff_5_9.1 ff_5_9.2 fl_X5_108 dX5_advance_29 ?_
  refine jr_iconst C ic_1 dX5_advance_32 ?_
  refine jr_iadd C dX5_advance_33 ?_
  refine jr_putI C FX_5 10 (oM_0 hB).1 (oM_0 hB).2 ff_5_10.1 ff_5_10.2 rfl rfl fl_X5_119 dX5_advance_34 (jr_ltS fun s6 => ?_)
  refine jr_iload_n C 0 rfl rfl dX5_advance_37 ?_
  refine jr_bipush C bp_38 dX5_advance_38 ?_
  refine jr_icmp_gt C (tgt := 51) dX5_advance_40 (by decide) (fun h7 => ?_) (fun h7 => ?_)
  · refine jo_pos h7 ?_
    refine jr_aload_n C 1 rfl rfl dX5_advance_51 ?_
    refine jr_iload_n C 0 rfl rfl dX5_advance_52 ?_
    refine jr_bind (fun q8 e9 => ?_)
    refine jr_callVV C FX_5 km_X5_127 (oM_0 hB).1 (oM_0 hB).2 (rk hR rfl) (c_Ma_performWide (gl G) hB x5 s6 e9) rfl rfl rfl (Nat.le_of_ble_eq_true rfl) dX5_advance_53 ?_
    refine jr_lv [1, 2, 3] rfl ?_
    exact t_Ma_advance_J56_1 G hR hL C hB v1 v2 q8 hb1 hx1
  refine jo_neg h7 ?_
  refine jr_aload_n C 1 rfl rfl dX5_advance_43 ?_
  refine jr_iload_n C 0 rfl rfl dX5_advance_44 ?_
  refine jr_bind (fun q13 e14 => ?_)
  refine jr_callVV C FX_5 km_X5_124 (oM_0 hB).1 (oM_0 hB).2 (rk hR rfl) (c_Ma_performPlain (gl G) hB x5 s6 e14) rfl rfl rfl (Nat.le_of_ble_eq_true rfl) dX5_advance_45 ?_
  refine jr_goto C (tgt := 56) dX5_advance_48 (by decide) ?_
  refine jr_lv [1, 2, 3] rfl ?_
  exact t_Ma_advance_J56_1 G hR hL C hB v1 v2 q13 hb1 hx1
noncomputable def f_Ma_advance (B : Nat) (v1 : Int32) (s : St) : Option (Int32 × St) :=
  (wh (fun a : (Int32 × St) => f_Ma_advance_L2 B v1 a.1 a.2) (0, s)).bind (fun b15 =>
  lt (uI (b15.2) B 12 ((b15.2.1 B 12) + b15.1)) fun s16 =>
  some (b15.1, s16))
set_option maxHeartbeats 4000000 in
set_option maxRecDepth 100000 in
theorem t_Ma_advance (G : GG) (hR : gR G = rmx 6 143) (hL : gL G = 4) (C : Cx SC G cX5_advance RX5) {Acc : (Int32 × St) → Prop} {B : Nat} (hB : isM B) (v1 : Int32) (s : St) (hr : ∀ v : (Int32 × St), Acc v → RtI SC G cX5_advance v.1 v.2) : JJ SC G Acc (f_Ma_advance B v1 s) 0 [(0, .ref (ad G B)), (1, .int v1)] [] s := by
  unfold f_Ma_advance
  refine jr_iconst C ic_0 dX5_advance_0 ?_
  refine jr_istore_n C (lv' := [(2, .int 0), (0, .ref (ad G B)), (1, .int v1)]) (ltL hL rfl) rfl rfl dX5_advance_1 ?_
  refine jr_lv [1, 2, 0] rfl ?_
  refine jr_loopB (pc := 2) (pcx := 77) (f := fun a : (Int32 × St) => f_Ma_advance_L2 B v1 a.1 a.2) (fun a : (Int32 × St) => [(0, .ref (ad G B)), (1, .int v1), (2, .int (a.1))]) (fun a : (Int32 × St) => a.2) (0, s) (fun a => t_Ma_advance_L2 G hR hL C hB v1 a.1 a.2 (fun _ _ h => h) (fun _ _ h => h)) (fun b15 => ?_)
  refine jr_aload_n C 0 rfl rfl dX5_advance_77 ?_
  refine jr_dup C rfl dX5_advance_78 ?_
  refine jr_getI C FX_5 12 (oM_0 hB).1 (oM_0 hB).2 ff_5_12.1 ff_5_12.2 fl_X5_86 dX5_advance_79 ?_
  refine jr_iload_n C 2 rfl rfl dX5_advance_82 ?_
  refine jr_iadd C dX5_advance_83 ?_
  refine jr_putI C FX_5 12 (oM_0 hB).1 (oM_0 hB).2 ff_5_12.1 ff_5_12.2 rfl rfl fl_X5_86 dX5_advance_84 (jr_ltS fun s16 => ?_)
  refine jr_iload_n C 2 rfl rfl dX5_advance_87 ?_
  exact jr_end (fun h => hr (b15.1, s16) h _ _ dX5_advance_88)
set_option maxRecDepth 100000 in
theorem c_Ma_advance (l : Launch) {B : Nat} (hB : isM B) (v1 : Int32) (s : St) {q : (Int32 × St)} (h : f_Ma_advance B v1 s = some q) : CT SC l yX5_advance cX5_advance 4 (some .int) 6 143 (fun a => [.ref (a B), .int v1]) s q.2 (fun _ => some (.int q.1)) :=
  ct_I okX_C (by decide) (fun _ => Nat.le_of_ble_eq_true rfl) (fun G hl hR hL C hr => t_Ma_advance G hR hL C (Acc := fun v => v = q) hB v1 s (fun v hv => by rw [hv]; exact hr) ⟨_, h, rfl⟩)
noncomputable def f_SB_run (v1 : Int32) (s : St) : Option (Int32 × St) :=
  if (s.1 0 5) = 0 then
  some ((-1), s)
  else
  if v1 < 0 then
  some ((-1), s)
  else
  if v1 ≤ 20000 then
  (lt (if (s.1 0 8) < v1 then (s.1 0 8) else v1) fun x4 =>
  (f_Ma_advance 20 x4 s).bind fun q5 =>
  lt (q5.1) fun x7 =>
  lt (uI (q5.2) 0 8 ((q5.2.1 0 8) - x7)) fun s8 =>
  some (x7, s8))
  else
  some ((-1), s)
set_option maxHeartbeats 4000000 in
set_option maxRecDepth 100000 in
theorem t_SB_run (G : GG) (hR : gR G = rmx 7 166) (hL : gL G = 3) (C : Cx SC G cX11_run RX11) {Acc : (Int32 × St) → Prop}  (v1 : Int32) (s : St) (hr : ∀ v : (Int32 × St), Acc v → RtI SC G cX11_run v.1 v.2) : JJ SC G Acc (f_SB_run v1 s) 0 [(0, .ref (ad G 0)), (1, .int v1)] [] s := by
  unfold f_SB_run
  refine jr_aload_n C 0 rfl rfl dX11_run_0 ?_
  refine jr_getI C FX_9 5 oC_0.1 oC_0.2 ff_9_5.1 ff_9_5.2 fl_X11_56 dX11_run_1 ?_
  refine jr_if_eq C (tgt := 18) dX11_run_4 (by decide) (fun h1 => ?_) (fun h1 => ?_)
  · refine jo_pos h1 ?_
    refine jr_iconst C ic_m1 dX11_run_18 ?_
    exact jr_end (fun h => hr ((-1), s) h _ _ dX11_run_19)
  refine jo_neg h1 ?_
  refine jr_iload_n C 1 rfl rfl dX11_run_7 ?_
  refine jr_if_lt C (tgt := 18) dX11_run_8 (by decide) (fun h2 => ?_) (fun h2 => ?_)
  · refine jo_pos h2 ?_
    refine jr_iconst C ic_m1 dX11_run_18 ?_
    exact jr_end (fun h => hr ((-1), s) h _ _ dX11_run_19)
  refine jo_neg h2 ?_
  refine jr_iload_n C 1 rfl rfl dX11_run_11 ?_
  refine jr_sipush C sp_20000 dX11_run_12 ?_
  refine jr_icmp_le C (tgt := 20) dX11_run_15 (by decide) (fun h3 => ?_) (fun h3 => ?_)
  · refine jo_pos h3 ?_
    refine jr_aload_n C 0 rfl rfl dX11_run_20 ?_
    refine jr_getR C FX_9 6 oC_0.1 oC_0.2 ff_9_6.1 ff_9_6.2 rfl fl_X11_33 dX11_run_21 ?_
    refine jr_iload_n C 1 rfl rfl dX11_run_24 ?_
    refine jr_aload_n C 0 rfl rfl dX11_run_25 ?_
    refine jr_getI C FX_9 8 oC_0.1 oC_0.2 ff_9_8.1 ff_9_8.2 fl_X11_41 dX11_run_26 ?_
    refine jr_min C km_X11_93 (rk2 hR rfl) (Nat.le_of_ble_eq_true rfl) dX11_run_29 ?_
    refine jr_ltI (fun x4 => ?_)
    refine jr_bind (fun q5 e6 => ?_)
    refine jr_callVI C FX_5 km_X11_99 (oM_0 isM_20).1 (oM_0 isM_20).2 (rk hR rfl) (c_Ma_advance (gl G) isM_20 x4 s e6) rfl rfl rfl (Nat.le_of_ble_eq_true rfl) dX11_run_32 ?_
    refine jr_ltI (fun x7 => ?_)
    refine jr_istore_n C (lv' := [(2, .int x7), (0, .ref (ad G 0)), (1, .int v1)]) (ltL hL rfl) rfl rfl dX11_run_35 ?_
    refine jr_aload_n C 1 rfl rfl dX11_run_36 ?_
    refine jr_dup C rfl dX11_run_37 ?_
    refine jr_getI C FX_9 8 oC_0.1 oC_0.2 ff_9_8.1 ff_9_8.2 fl_X11_41 dX11_run_38 ?_
    refine jr_iload_n C 0 rfl rfl dX11_run_41 ?_
    refine jr_isub C dX11_run_42 ?_
    refine jr_putI C FX_9 8 oC_0.1 oC_0.2 ff_9_8.1 ff_9_8.2 rfl rfl fl_X11_41 dX11_run_43 (jr_ltS fun s8 => ?_)
    refine jr_iload_n C 0 rfl rfl dX11_run_46 ?_
    exact jr_end (fun h => hr (x7, s8) h _ _ dX11_run_47)
  refine jo_neg h3 ?_
  refine jr_iconst C ic_m1 dX11_run_18 ?_
  exact jr_end (fun h => hr ((-1), s) h _ _ dX11_run_19)
set_option maxRecDepth 100000 in
theorem c_SB_run (l : Launch)  (v1 : Int32) (s : St) {q : (Int32 × St)} (h : f_SB_run v1 s = some q) : CT SC l yX11_run cX11_run 3 (some .int) 7 166 (fun a => [.ref (a 0), .int v1]) s q.2 (fun _ => some (.int q.1)) :=
  ct_I okX_C (by decide) (fun _ => Nat.le_of_ble_eq_true rfl) (fun G hl hR hL C hr => t_SB_run G hR hL C (Acc := fun v => v = q)  v1 s (fun v hv => by rw [hv]; exact hr) ⟨_, h, rfl⟩)
noncomputable def f_Lg_isQuiet (B : Nat) (s : St) : Option Int32 :=
  if (s.1 (B + 17) 5) = 0 then
  (if (s.1 (B + 17) 6) = 0 then
  some 1
  else
  some 0)
  else
  some 0
set_option maxHeartbeats 4000000 in
set_option maxRecDepth 100000 in
theorem t_Lg_isQuiet (G : GG) (hR : gR G = rmx 0 0) (hL : gL G = 1) (C : Cx SC G cX4_isQuiet RX4) {Acc : Int32 → Prop} {B : Nat} (hB : isM B)  (s : St) (hr : ∀ v : Int32, Acc v → RtZ SC G cX4_isQuiet v s) : JJ SC G Acc (f_Lg_isQuiet B s) 0 [(0, .ref (ad G (B + 17)))] [] s := by
  unfold f_Lg_isQuiet
  refine jr_aload_n C 0 rfl rfl dX4_isQuiet_0 ?_
  refine jr_getI C FX_4 5 (oM_17 hB).1 (oM_17 hB).2 ff_4_5.1 ff_4_5.2 fl_X4_37 dX4_isQuiet_1 ?_
  refine jr_if_ne C (tgt := 18) dX4_isQuiet_4 (by decide) (fun h1 => ?_) (fun h1 => ?_)
  · refine jo_neg h1 ?_
    refine jr_iconst C ic_0 dX4_isQuiet_18 ?_
    exact jr_end (fun h => hr 0 h _ _ _ bN0 dX4_isQuiet_19)
  refine jo_pos h1 ?_
  refine jr_aload_n C 0 rfl rfl dX4_isQuiet_7 ?_
  refine jr_getI C FX_4 6 (oM_17 hB).1 (oM_17 hB).2 ff_4_6.1 ff_4_6.2 fl_X4_40 dX4_isQuiet_8 ?_
  refine jr_if_ne C (tgt := 18) dX4_isQuiet_11 (by decide) (fun h2 => ?_) (fun h2 => ?_)
  · refine jo_neg h2 ?_
    refine jr_iconst C ic_0 dX4_isQuiet_18 ?_
    exact jr_end (fun h => hr 0 h _ _ _ bN0 dX4_isQuiet_19)
  refine jo_pos h2 ?_
  refine jr_iconst C ic_1 dX4_isQuiet_14 ?_
  refine jr_goto C (tgt := 19) dX4_isQuiet_15 (by decide) ?_
  exact jr_end (fun h => hr 1 h _ _ _ bN1 dX4_isQuiet_19)
set_option maxRecDepth 100000 in
theorem c_Lg_isQuiet (l : Launch) {B : Nat} (hB : isM B)  (s : St) {q : Int32} (h : f_Lg_isQuiet B s = some q) : CT SC l yX4_isQuiet cX4_isQuiet 1 (some .boolean) 0 0 (fun a => [.ref (a (B + 17))]) s s (fun _ => some (.int q)) :=
  ct_Z okX_C (by decide) (fun _ => Nat.le_of_ble_eq_true rfl) (fun G hl hR hL C hr => t_Lg_isQuiet G hR hL C (Acc := fun v => v = q) hB  s (fun v hv => by rw [hv]; exact hr) ⟨_, h, rfl⟩)
