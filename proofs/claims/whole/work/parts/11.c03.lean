noncomputable def f_Lg_isSuppressed_J63_1 (B : Nat) (v1 : Int32) (v2 : Int32) (v3 : Int32) (s : St) : Option (Int32 ⊕ (Int32 ⊕ Int32)) :=
  some (.inl (v3 + 1))
set_option maxHeartbeats 4000000 in
set_option maxRecDepth 100000 in
theorem t_Lg_isSuppressed_J63_1 (G : GG) (hR : gR G = rmx 0 0) (hL : gL G = 5) (C : Cx SC G cX4_isSuppressed RX4) {Acc : (Int32 ⊕ (Int32 ⊕ Int32)) → Prop} {B : Nat} (hB : isM B) (v1 : Int32) (v2 : Int32) (v3 : Int32) (s : St) (hb1 : ∀ (a3 : Int32), Acc (.inl a3) → KK SC G 2 [(0, .ref (ad G (B + 17))), (1, .int v1), (2, .int v2), (3, .int a3)] [] s) (hx1 : ∀ (a3 : Int32), Acc (.inr (.inl a3)) → KK SC G 69 [(0, .ref (ad G (B + 17))), (1, .int v1), (2, .int v2), (3, .int a3)] [] s) (hr : ∀ v : Int32, Acc (.inr (.inr v)) → RtZ SC G cX4_isSuppressed v s) : JJ SC G Acc (f_Lg_isSuppressed_J63_1 B v1 v2 v3 s) 63 [(0, .ref (ad G (B + 17))), (1, .int v1), (2, .int v2), (3, .int v3)] [] s := by
  unfold f_Lg_isSuppressed_J63_1
  refine jr_iinc C 3 rfl ii_1 (lv' := [(3, .int (v3 + 1)), (0, .ref (ad G (B + 17))), (1, .int v1), (2, .int v2)]) (ltL hL rfl) rfl dX4_isSuppressed_63 ?_
  refine jr_goto C (tgt := 2) dX4_isSuppressed_66 (by decide) ?_
  refine jr_lv [1, 2, 3, 0] rfl ?_
  exact jr_end (fun h => hb1 (v3 + 1) h)
noncomputable def f_Lg_isSuppressed_J34_1 (B : Nat) (v1 : Int32) (v2 : Int32) (v3 : Int32) (w0 : Int32) (s : St) : Option (Int32 ⊕ (Int32 ⊕ Int32)) :=
  if w0 = 0 then
  f_Lg_isSuppressed_J63_1 B v1 v2 v3 s
  else
  gd v3 20 <|
  if v2 < (s.1 (B + 23) (v3 : Int32).toNatClampNeg) then
  f_Lg_isSuppressed_J63_1 B v1 v2 v3 s
  else
  gd v3 20 <|
  if (s.1 (B + 24) (v3 : Int32).toNatClampNeg) < v2 then
  f_Lg_isSuppressed_J63_1 B v1 v2 v3 s
  else
  some (.inr (.inr 1))
set_option maxHeartbeats 4000000 in
set_option maxRecDepth 100000 in
theorem t_Lg_isSuppressed_J34_1 (G : GG) (hR : gR G = rmx 0 0) (hL : gL G = 5) (C : Cx SC G cX4_isSuppressed RX4) {Acc : (Int32 ⊕ (Int32 ⊕ Int32)) → Prop} {B : Nat} (hB : isM B) (v1 : Int32) (v2 : Int32) (v3 : Int32) (w0 : Int32) (s : St) (hb1 : ∀ (a3 : Int32), Acc (.inl a3) → KK SC G 2 [(0, .ref (ad G (B + 17))), (1, .int v1), (2, .int v2), (3, .int a3)] [] s) (hx1 : ∀ (a3 : Int32), Acc (.inr (.inl a3)) → KK SC G 69 [(0, .ref (ad G (B + 17))), (1, .int v1), (2, .int v2), (3, .int a3)] [] s) (hr : ∀ v : Int32, Acc (.inr (.inr v)) → RtZ SC G cX4_isSuppressed v s) : JJ SC G Acc (f_Lg_isSuppressed_J34_1 B v1 v2 v3 w0 s) 34 [(0, .ref (ad G (B + 17))), (1, .int v1), (2, .int v2), (3, .int v3)] [.int w0] s := by
  unfold f_Lg_isSuppressed_J34_1
  refine jr_istore C (lv' := [(4, .int w0), (0, .ref (ad G (B + 17))), (1, .int v1), (2, .int v2), (3, .int v3)]) (ltL hL rfl) rfl dX4_isSuppressed_34 ?_
  refine jr_iload C 0 rfl dX4_isSuppressed_36 ?_
  refine jr_if_eq C (tgt := 63) dX4_isSuppressed_38 (by decide) (fun h3 => ?_) (fun h3 => ?_)
  · refine jo_pos h3 ?_
    refine jr_lv [1, 2, 3, 4] rfl ?_
    exact t_Lg_isSuppressed_J63_1 G hR hL C hB v1 v2 v3 s hb1 hx1 hr
  refine jo_neg h3 ?_
  refine jr_aload_n C 1 rfl rfl dX4_isSuppressed_41 ?_
  refine jr_getR C FX_4 8 (oM_17 hB).1 (oM_17 hB).2 ff_4_8.1 ff_4_8.2 (rM_17_8 _ hB) fl_X4_27 dX4_isSuppressed_42 ?_
  refine jr_iload_n C 4 rfl rfl dX4_isSuppressed_45 ?_
  refine jr_iald C (oM_23 hB).1 (oM_23 hB).2.1 (oM_23 hB).2.2 dX4_isSuppressed_46 ?_
  refine jr_iload_n C 3 rfl rfl dX4_isSuppressed_47 ?_
  refine jr_icmp_gt C (tgt := 63) dX4_isSuppressed_48 (by decide) (fun h4 => ?_) (fun h4 => ?_)
  · refine jo_pos h4 ?_
    refine jr_lv [1, 2, 3, 4] rfl ?_
    exact t_Lg_isSuppressed_J63_1 G hR hL C hB v1 v2 v3 s hb1 hx1 hr
  refine jo_neg h4 ?_
  refine jr_iload_n C 3 rfl rfl dX4_isSuppressed_51 ?_
  refine jr_aload_n C 1 rfl rfl dX4_isSuppressed_52 ?_
  refine jr_getR C FX_4 9 (oM_17 hB).1 (oM_17 hB).2 ff_4_9.1 ff_4_9.2 (rM_17_9 _ hB) fl_X4_30 dX4_isSuppressed_53 ?_
  refine jr_iload_n C 4 rfl rfl dX4_isSuppressed_56 ?_
  refine jr_iald C (oM_24 hB).1 (oM_24 hB).2.1 (oM_24 hB).2.2 dX4_isSuppressed_57 ?_
  refine jr_icmp_gt C (tgt := 63) dX4_isSuppressed_58 (by decide) (fun h5 => ?_) (fun h5 => ?_)
  · refine jo_pos h5 ?_
    refine jr_lv [1, 2, 3, 4] rfl ?_
    exact t_Lg_isSuppressed_J63_1 G hR hL C hB v1 v2 v3 s hb1 hx1 hr
  refine jo_neg h5 ?_
  refine jr_iconst C ic_1 dX4_isSuppressed_61 ?_
  exact jr_end (fun h => hr 1 h _ _ _ bN1 dX4_isSuppressed_62)
noncomputable def f_Lg_isSuppressed_J29_1 (B : Nat) (v1 : Int32) (v2 : Int32) (v3 : Int32) (s : St) : Option (Int32 ⊕ (Int32 ⊕ Int32)) :=
  f_Lg_isSuppressed_J34_1 B v1 v2 v3 1 s
set_option maxHeartbeats 4000000 in
set_option maxRecDepth 100000 in
theorem t_Lg_isSuppressed_J29_1 (G : GG) (hR : gR G = rmx 0 0) (hL : gL G = 5) (C : Cx SC G cX4_isSuppressed RX4) {Acc : (Int32 ⊕ (Int32 ⊕ Int32)) → Prop} {B : Nat} (hB : isM B) (v1 : Int32) (v2 : Int32) (v3 : Int32) (s : St) (hb1 : ∀ (a3 : Int32), Acc (.inl a3) → KK SC G 2 [(0, .ref (ad G (B + 17))), (1, .int v1), (2, .int v2), (3, .int a3)] [] s) (hx1 : ∀ (a3 : Int32), Acc (.inr (.inl a3)) → KK SC G 69 [(0, .ref (ad G (B + 17))), (1, .int v1), (2, .int v2), (3, .int a3)] [] s) (hr : ∀ v : Int32, Acc (.inr (.inr v)) → RtZ SC G cX4_isSuppressed v s) : JJ SC G Acc (f_Lg_isSuppressed_J29_1 B v1 v2 v3 s) 29 [(0, .ref (ad G (B + 17))), (1, .int v1), (2, .int v2), (3, .int v3)] [] s := by
  unfold f_Lg_isSuppressed_J29_1
  refine jr_iconst C ic_1 dX4_isSuppressed_29 ?_
  refine jr_goto C (tgt := 34) dX4_isSuppressed_30 (by decide) ?_
  exact t_Lg_isSuppressed_J34_1 G hR hL C hB v1 v2 v3 1 s hb1 hx1 hr
noncomputable def f_Lg_isSuppressed_L2 (B : Nat) (v1 : Int32) (v2 : Int32) (v3 : Int32) (s : St) : Option (Int32 ⊕ (Int32 ⊕ Int32)) :=
  if (s.1 (B + 17) 10) ≤ v3 then
  some (.inr (.inl v3))
  else
  gd v3 20 <|
  if (s.1 (B + 22) (v3 : Int32).toNatClampNeg) = 0 then
  f_Lg_isSuppressed_J29_1 B v1 v2 v3 s
  else
  gd v3 20 <|
  if (s.1 (B + 22) (v3 : Int32).toNatClampNeg) = v1 then
  f_Lg_isSuppressed_J29_1 B v1 v2 v3 s
  else
  f_Lg_isSuppressed_J34_1 B v1 v2 v3 0 s
set_option maxHeartbeats 4000000 in
set_option maxRecDepth 100000 in
theorem t_Lg_isSuppressed_L2 (G : GG) (hR : gR G = rmx 0 0) (hL : gL G = 5) (C : Cx SC G cX4_isSuppressed RX4) {Acc : (Int32 ⊕ (Int32 ⊕ Int32)) → Prop} {B : Nat} (hB : isM B) (v1 : Int32) (v2 : Int32) (v3 : Int32) (s : St) (hb1 : ∀ (a3 : Int32), Acc (.inl a3) → KK SC G 2 [(0, .ref (ad G (B + 17))), (1, .int v1), (2, .int v2), (3, .int a3)] [] s) (hx1 : ∀ (a3 : Int32), Acc (.inr (.inl a3)) → KK SC G 69 [(0, .ref (ad G (B + 17))), (1, .int v1), (2, .int v2), (3, .int a3)] [] s) (hr : ∀ v : Int32, Acc (.inr (.inr v)) → RtZ SC G cX4_isSuppressed v s) : JJ SC G Acc (f_Lg_isSuppressed_L2 B v1 v2 v3 s) 2 [(0, .ref (ad G (B + 17))), (1, .int v1), (2, .int v2), (3, .int v3)] [] s := by
  unfold f_Lg_isSuppressed_L2
  refine jr_iload_n C 3 rfl rfl dX4_isSuppressed_2 ?_
  refine jr_aload_n C 0 rfl rfl dX4_isSuppressed_3 ?_
  refine jr_getI C FX_4 10 (oM_17 hB).1 (oM_17 hB).2 ff_4_10.1 ff_4_10.2 fl_X4_43 dX4_isSuppressed_4 ?_
  refine jr_icmp_ge C (tgt := 69) dX4_isSuppressed_7 (by decide) (fun h1 => ?_) (fun h1 => ?_)
  · refine jo_pos h1 ?_
    exact jr_end (fun h => hx1 v3 h)
  refine jo_neg h1 ?_
  refine jr_aload_n C 0 rfl rfl dX4_isSuppressed_10 ?_
  refine jr_getR C FX_4 7 (oM_17 hB).1 (oM_17 hB).2 ff_4_7.1 ff_4_7.2 (rM_17_7 _ hB) fl_X4_24 dX4_isSuppressed_11 ?_
  refine jr_iload_n C 3 rfl rfl dX4_isSuppressed_14 ?_
  refine jr_iald C (oM_22 hB).1 (oM_22 hB).2.1 (oM_22 hB).2.2 dX4_isSuppressed_15 ?_
  refine jr_if_eq C (tgt := 29) dX4_isSuppressed_16 (by decide) (fun h2 => ?_) (fun h2 => ?_)
  · refine jo_pos h2 ?_
    exact t_Lg_isSuppressed_J29_1 G hR hL C hB v1 v2 v3 s hb1 hx1 hr
  refine jo_neg h2 ?_
  refine jr_aload_n C 0 rfl rfl dX4_isSuppressed_19 ?_
  refine jr_getR C FX_4 7 (oM_17 hB).1 (oM_17 hB).2 ff_4_7.1 ff_4_7.2 (rM_17_7 _ hB) fl_X4_24 dX4_isSuppressed_20 ?_
  refine jr_iload_n C 3 rfl rfl dX4_isSuppressed_23 ?_
  refine jr_iald C (oM_22 hB).1 (oM_22 hB).2.1 (oM_22 hB).2.2 dX4_isSuppressed_24 ?_
  refine jr_iload_n C 1 rfl rfl dX4_isSuppressed_25 ?_
  refine jr_icmp_ne C (tgt := 33) dX4_isSuppressed_26 (by decide) (fun h6 => ?_) (fun h6 => ?_)
  · refine jo_neg h6 ?_
    refine jr_iconst C ic_0 dX4_isSuppressed_33 ?_
    exact t_Lg_isSuppressed_J34_1 G hR hL C hB v1 v2 v3 0 s hb1 hx1 hr
  refine jo_pos h6 ?_
  exact t_Lg_isSuppressed_J29_1 G hR hL C hB v1 v2 v3 s hb1 hx1 hr
noncomputable def f_Lg_isSuppressed (B : Nat) (v1 : Int32) (v2 : Int32) (s : St) : Option Int32 :=
  (wh (fun a : Int32 => f_Lg_isSuppressed_L2 B v1 v2 a s) 0).bind (Sum.elim (fun b7 =>
  some 0) some)
set_option maxHeartbeats 4000000 in
set_option maxRecDepth 100000 in
theorem t_Lg_isSuppressed (G : GG) (hR : gR G = rmx 0 0) (hL : gL G = 5) (C : Cx SC G cX4_isSuppressed RX4) {Acc : Int32 → Prop} {B : Nat} (hB : isM B) (v1 : Int32) (v2 : Int32) (s : St) (hr : ∀ v : Int32, Acc v → RtZ SC G cX4_isSuppressed v s) : JJ SC G Acc (f_Lg_isSuppressed B v1 v2 s) 0 [(0, .ref (ad G (B + 17))), (1, .int v1), (2, .int v2)] [] s := by
  unfold f_Lg_isSuppressed
  refine jr_iconst C ic_0 dX4_isSuppressed_0 ?_
  refine jr_istore_n C (lv' := [(3, .int 0), (0, .ref (ad G (B + 17))), (1, .int v1), (2, .int v2)]) (ltL hL rfl) rfl rfl dX4_isSuppressed_1 ?_
  refine jr_lv [1, 2, 3, 0] rfl ?_
  refine jr_loopE (pc := 2) (pcx := 69) (f := fun a : Int32 => f_Lg_isSuppressed_L2 B v1 v2 a s) (fun a : Int32 => [(0, .ref (ad G (B + 17))), (1, .int v1), (2, .int v2), (3, .int a)]) (fun a : Int32 => s) 0 (fun a => t_Lg_isSuppressed_L2 G hR hL C hB v1 v2 a s (fun _ h => h) (fun _ h => h) hr) (fun b7 => ?_)
  refine jr_iconst C ic_0 dX4_isSuppressed_69 ?_
  exact jr_end (fun h => hr 0 h _ _ _ bN0 dX4_isSuppressed_70)
set_option maxRecDepth 100000 in
theorem c_Lg_isSuppressed (l : Launch) {B : Nat} (hB : isM B) (v1 : Int32) (v2 : Int32) (s : St) {q : Int32} (h : f_Lg_isSuppressed B v1 v2 s = some q) : CT SC l yX4_isSuppressed cX4_isSuppressed 5 (some .boolean) 0 0 (fun a => [.ref (a (B + 17)), .int v1, .int v2]) s s (fun _ => some (.int q)) :=
  ct_Z okX_C (by decide) (fun _ => Nat.le_of_ble_eq_true rfl) (fun G hl hR hL C hr => t_Lg_isSuppressed G hR hL C (Acc := fun v => v = q) hB v1 v2 s (fun v hv => by rw [hv]; exact hr) ⟨_, h, rfl⟩)
noncomputable def f_Lg_find_J48_1 (B : Nat) (v1 : Int32) (v2 : Int32) (v3 : Int32) (v4 : Int32) (s : St) : Option (Int32 ⊕ (Int32 ⊕ Int32)) :=
  some (.inl (v4 + 1))
set_option maxHeartbeats 4000000 in
set_option maxRecDepth 100000 in
theorem t_Lg_find_J48_1 (G : GG) (hR : gR G = rmx 0 0) (hL : gL G = 5) (C : Cx SC G cX4_find RX4) {Acc : (Int32 ⊕ (Int32 ⊕ Int32)) → Prop} {B : Nat} (hB : isM B) (v1 : Int32) (v2 : Int32) (v3 : Int32) (v4 : Int32) (s : St) (hb1 : ∀ (a4 : Int32), Acc (.inl a4) → KK SC G 3 [(0, .ref (ad G (B + 17))), (1, .int v1), (2, .int v2), (3, .int v3), (4, .int a4)] [] s) (hx1 : ∀ (a4 : Int32), Acc (.inr (.inl a4)) → KK SC G 54 [(0, .ref (ad G (B + 17))), (1, .int v1), (2, .int v2), (3, .int v3), (4, .int a4)] [] s) (hr : ∀ v : Int32, Acc (.inr (.inr v)) → RtI SC G cX4_find v s) : JJ SC G Acc (f_Lg_find_J48_1 B v1 v2 v3 v4 s) 48 [(0, .ref (ad G (B + 17))), (1, .int v1), (2, .int v2), (3, .int v3), (4, .int v4)] [] s := by
  unfold f_Lg_find_J48_1
  refine jr_iinc C 4 rfl ii_1 (lv' := [(4, .int (v4 + 1)), (0, .ref (ad G (B + 17))), (1, .int v1), (2, .int v2), (3, .int v3)]) (ltL hL rfl) rfl dX4_find_48 ?_
  refine jr_goto C (tgt := 3) dX4_find_51 (by decide) ?_
  refine jr_lv [1, 2, 3, 4, 0] rfl ?_
  exact jr_end (fun h => hb1 (v4 + 1) h)
noncomputable def f_Lg_find_L3 (B : Nat) (v1 : Int32) (v2 : Int32) (v3 : Int32) (v4 : Int32) (s : St) : Option (Int32 ⊕ (Int32 ⊕ Int32)) :=
  if (s.1 (B + 17) 4) ≤ v4 then
  some (.inr (.inl v4))
  else
  gd v4 60 <|
  if (s.1 (B + 18) (v4 : Int32).toNatClampNeg) = v1 then
  (gd v4 60 <|
  if (s.1 (B + 19) (v4 : Int32).toNatClampNeg) = v2 then
  (gd v4 60 <|
  if (s.1 (B + 20) (v4 : Int32).toNatClampNeg) = v3 then
  some (.inr (.inr v4))
  else
  f_Lg_find_J48_1 B v1 v2 v3 v4 s)
  else
  f_Lg_find_J48_1 B v1 v2 v3 v4 s)
  else
  f_Lg_find_J48_1 B v1 v2 v3 v4 s
set_option maxHeartbeats 4000000 in
set_option maxRecDepth 100000 in
theorem t_Lg_find_L3 (G : GG) (hR : gR G = rmx 0 0) (hL : gL G = 5) (C : Cx SC G cX4_find RX4) {Acc : (Int32 ⊕ (Int32 ⊕ Int32)) → Prop} {B : Nat} (hB : isM B) (v1 : Int32) (v2 : Int32) (v3 : Int32) (v4 : Int32) (s : St) (hb1 : ∀ (a4 : Int32), Acc (.inl a4) → KK SC G 3 [(0, .ref (ad G (B + 17))), (1, .int v1), (2, .int v2), (3, .int v3), (4, .int a4)] [] s) (hx1 : ∀ (a4 : Int32), Acc (.inr (.inl a4)) → KK SC G 54 [(0, .ref (ad G (B + 17))), (1, .int v1), (2, .int v2), (3, .int v3), (4, .int a4)] [] s) (hr : ∀ v : Int32, Acc (.inr (.inr v)) → RtI SC G cX4_find v s) : JJ SC G Acc (f_Lg_find_L3 B v1 v2 v3 v4 s) 3 [(0, .ref (ad G (B + 17))), (1, .int v1), (2, .int v2), (3, .int v3), (4, .int v4)] [] s := by
  unfold f_Lg_find_L3
  refine jr_iload C 4 rfl dX4_find_3 ?_
  refine jr_aload_n C 0 rfl rfl dX4_find_5 ?_
  refine jr_getI C FX_4 4 (oM_17 hB).1 (oM_17 hB).2 ff_4_4.1 ff_4_4.2 fl_X4_33 dX4_find_6 ?_
  refine jr_icmp_ge C (tgt := 54) dX4_find_9 (by decide) (fun h1 => ?_) (fun h1 => ?_)
  · refine jo_pos h1 ?_
    exact jr_end (fun h => hx1 v4 h)
  refine jo_neg h1 ?_
  refine jr_aload_n C 0 rfl rfl dX4_find_12 ?_
  refine jr_getR C FX_4 0 (oM_17 hB).1 (oM_17 hB).2 ff_4_0.1 ff_4_0.2 (rM_17_0 _ hB) fl_X4_11 dX4_find_13 ?_
  refine jr_iload C 4 rfl dX4_find_16 ?_
  refine jr_iald C (oM_18 hB).1 (oM_18 hB).2.1 (oM_18 hB).2.2 dX4_find_18 ?_
  refine jr_iload_n C 1 rfl rfl dX4_find_19 ?_
  refine jr_icmp_ne C (tgt := 48) dX4_find_20 (by decide) (fun h2 => ?_) (fun h2 => ?_)
  · refine jo_neg h2 ?_
    exact t_Lg_find_J48_1 G hR hL C hB v1 v2 v3 v4 s hb1 hx1 hr
  refine jo_pos h2 ?_
  refine jr_aload_n C 0 rfl rfl dX4_find_23 ?_
  refine jr_getR C FX_4 1 (oM_17 hB).1 (oM_17 hB).2 ff_4_1.1 ff_4_1.2 (rM_17_1 _ hB) fl_X4_15 dX4_find_24 ?_
  refine jr_iload C 4 rfl dX4_find_27 ?_
  refine jr_iald C (oM_19 hB).1 (oM_19 hB).2.1 (oM_19 hB).2.2 dX4_find_29 ?_
  refine jr_iload_n C 2 rfl rfl dX4_find_30 ?_
  refine jr_icmp_ne C (tgt := 48) dX4_find_31 (by decide) (fun h3 => ?_) (fun h3 => ?_)
  · refine jo_neg h3 ?_
    exact t_Lg_find_J48_1 G hR hL C hB v1 v2 v3 v4 s hb1 hx1 hr
  refine jo_pos h3 ?_
  refine jr_aload_n C 0 rfl rfl dX4_find_34 ?_
  refine jr_getR C FX_4 2 (oM_17 hB).1 (oM_17 hB).2 ff_4_2.1 ff_4_2.2 (rM_17_2 _ hB) fl_X4_18 dX4_find_35 ?_
  refine jr_iload C 4 rfl dX4_find_38 ?_
  refine jr_iald C (oM_20 hB).1 (oM_20 hB).2.1 (oM_20 hB).2.2 dX4_find_40 ?_
  refine jr_iload_n C 3 rfl rfl dX4_find_41 ?_
  refine jr_icmp_ne C (tgt := 48) dX4_find_42 (by decide) (fun h4 => ?_) (fun h4 => ?_)
  · refine jo_neg h4 ?_
    exact t_Lg_find_J48_1 G hR hL C hB v1 v2 v3 v4 s hb1 hx1 hr
  refine jo_pos h4 ?_
  refine jr_iload C 4 rfl dX4_find_45 ?_
  exact jr_end (fun h => hr v4 h _ _ dX4_find_47)
noncomputable def f_Lg_find (B : Nat) (v1 : Int32) (v2 : Int32) (v3 : Int32) (s : St) : Option Int32 :=
  (wh (fun a : Int32 => f_Lg_find_L3 B v1 v2 v3 a s) 0).bind (Sum.elim (fun b5 =>
  some (-1)) some)
set_option maxHeartbeats 4000000 in
set_option maxRecDepth 100000 in
theorem t_Lg_find (G : GG) (hR : gR G = rmx 0 0) (hL : gL G = 5) (C : Cx SC G cX4_find RX4) {Acc : Int32 → Prop} {B : Nat} (hB : isM B) (v1 : Int32) (v2 : Int32) (v3 : Int32) (s : St) (hr : ∀ v : Int32, Acc v → RtI SC G cX4_find v s) : JJ SC G Acc (f_Lg_find B v1 v2 v3 s) 0 [(0, .ref (ad G (B + 17))), (1, .int v1), (2, .int v2), (3, .int v3)] [] s := by
  unfold f_Lg_find
  refine jr_iconst C ic_0 dX4_find_0 ?_
  refine jr_istore C (lv' := [(4, .int 0), (0, .ref (ad G (B + 17))), (1, .int v1), (2, .int v2), (3, .int v3)]) (ltL hL rfl) rfl dX4_find_1 ?_
  refine jr_lv [1, 2, 3, 4, 0] rfl ?_
  refine jr_loopE (pc := 3) (pcx := 54) (f := fun a : Int32 => f_Lg_find_L3 B v1 v2 v3 a s) (fun a : Int32 => [(0, .ref (ad G (B + 17))), (1, .int v1), (2, .int v2), (3, .int v3), (4, .int a)]) (fun a : Int32 => s) 0 (fun a => t_Lg_find_L3 G hR hL C hB v1 v2 v3 a s (fun _ h => h) (fun _ h => h) hr) (fun b5 => ?_)
  refine jr_iconst C ic_m1 dX4_find_54 ?_
  exact jr_end (fun h => hr (-1) h _ _ dX4_find_55)
set_option maxRecDepth 100000 in
theorem c_Lg_find (l : Launch) {B : Nat} (hB : isM B) (v1 : Int32) (v2 : Int32) (v3 : Int32) (s : St) {q : Int32} (h : f_Lg_find B v1 v2 v3 s = some q) : CT SC l yX4_find cX4_find 5 (some .int) 0 0 (fun a => [.ref (a (B + 17)), .int v1, .int v2, .int v3]) s s (fun _ => some (.int q)) :=
  ct_I okX_C (by decide) (fun _ => Nat.le_of_ble_eq_true rfl) (fun G hl hR hL C hr => t_Lg_find G hR hL C (Acc := fun v => v = q) hB v1 v2 v3 s (fun v hv => by rw [hv]; exact hr) ⟨_, h, rfl⟩)
noncomputable def f_Lg_note (B : Nat) (v1 : Int32) (v2 : Int32) (v3 : Int32) (s : St) : Option St :=
  (f_Lg_isSuppressed B v1 v2 s).bind fun q1 =>
  if q1 = 0 then
  (lt (uI s (B + 17) 5 ((s.1 (B + 17) 5) + 1)) fun s4 =>
  (f_Lg_find B v1 v2 v3 s4).bind fun q5 =>
  if q5 = (-1) then
  (if 60 ≤ (s4.1 (B + 17) 4) then
  some s4
  else
  gd (s4.1 (B + 17) 4) 60 <|
  lt (uI s4 (B + 18) ((s4.1 (B + 17) 4) : Int32).toNatClampNeg v1) fun s9 =>
  gd (s9.1 (B + 17) 4) 60 <|
  lt (uI s9 (B + 19) ((s9.1 (B + 17) 4) : Int32).toNatClampNeg v2) fun s10 =>
  gd (s10.1 (B + 17) 4) 60 <|
  lt (uI s10 (B + 20) ((s10.1 (B + 17) 4) : Int32).toNatClampNeg v3) fun s11 =>
  gd (s11.1 (B + 17) 4) 60 <|
  lt (uI s11 (B + 21) ((s11.1 (B + 17) 4) : Int32).toNatClampNeg 1) fun s12 =>
  lt (uI s12 (B + 17) 4 ((s12.1 (B + 17) 4) + 1)) fun s13 =>
  some s13)
  else
  gd q5 60 <|
  gd q5 60 <|
  lt (uI s4 (B + 21) (q5 : Int32).toNatClampNeg ((s4.1 (B + 21) (q5 : Int32).toNatClampNeg) + 1)) fun s14 =>
  some s14)
  else
  lt (uI s (B + 17) 6 ((s.1 (B + 17) 6) + 1)) fun s15 =>
  some s15
set_option maxHeartbeats 4000000 in
set_option maxRecDepth 100000 in
theorem t_Lg_note (G : GG) (hR : gR G = rmx 1 24) (hL : gL G = 5) (C : Cx SC G cX4_note RX4) {Acc : St → Prop} {B : Nat} (hB : isM B) (v1 : Int32) (v2 : Int32) (v3 : Int32) (s : St) (hr : ∀ v : St, Acc v → RtV SC G cX4_note v) : JJ SC G Acc (f_Lg_note B v1 v2 v3 s) 0 [(0, .ref (ad G (B + 17))), (1, .int v1), (2, .int v2), (3, .int v3)] [] s := by
  unfold f_Lg_note
  refine jr_aload_n C 0 rfl rfl dX4_note_0 ?_
  refine jr_iload_n C 1 rfl rfl dX4_note_1 ?_
  refine jr_iload_n C 2 rfl rfl dX4_note_2 ?_
  refine jr_bind (fun q1 e2 => ?_)
  refine jr_callVI C FX_4 km_X4_46 (oM_17 hB).1 (oM_17 hB).2 (rk hR rfl) (c_Lg_isSuppressed (gl G) hB v1 v2 s e2) rfl rfl rfl (Nat.le_of_ble_eq_true rfl) dX4_note_3 ?_
  refine jr_if_eq C (tgt := 20) dX4_note_6 (by decide) (fun h3 => ?_) (fun h3 => ?_)
  · refine jo_pos h3 ?_
    refine jr_aload_n C 0 rfl rfl dX4_note_20 ?_
    refine jr_dup C rfl dX4_note_21 ?_
    refine jr_getI C FX_4 5 (oM_17 hB).1 (oM_17 hB).2 ff_4_5.1 ff_4_5.2 fl_X4_37 dX4_note_22 ?_
    refine jr_iconst C ic_1 dX4_note_25 ?_
    refine jr_iadd C dX4_note_26 ?_
    refine jr_putI C FX_4 5 (oM_17 hB).1 (oM_17 hB).2 ff_4_5.1 ff_4_5.2 rfl rfl fl_X4_37 dX4_note_27 (jr_ltS fun s4 => ?_)
    refine jr_aload_n C 0 rfl rfl dX4_note_30 ?_
    refine jr_iload_n C 1 rfl rfl dX4_note_31 ?_
    refine jr_iload_n C 2 rfl rfl dX4_note_32 ?_
    refine jr_iload_n C 3 rfl rfl dX4_note_33 ?_
    refine jr_bind (fun q5 e6 => ?_)
    refine jr_callVI C FX_4 km_X4_50 (oM_17 hB).1 (oM_17 hB).2 (rk hR rfl) (c_Lg_find (gl G) hB v1 v2 v3 s4 e6) rfl rfl rfl (Nat.le_of_ble_eq_true rfl) dX4_note_34 ?_
    refine jr_istore C (lv' := [(4, .int q5), (0, .ref (ad G (B + 17))), (1, .int v1), (2, .int v2), (3, .int v3)]) (ltL hL rfl) rfl dX4_note_37 ?_
    refine jr_iload C 0 rfl dX4_note_39 ?_
    refine jr_iconst C ic_m1 dX4_note_41 ?_
    refine jr_icmp_eq C (tgt := 59) dX4_note_42 (by decide) (fun h7 => ?_) (fun h7 => ?_)
    · refine jo_pos h7 ?_
      refine jr_aload_n C 1 rfl rfl dX4_note_59 ?_
      refine jr_getI C FX_4 4 (oM_17 hB).1 (oM_17 hB).2 ff_4_4.1 ff_4_4.2 fl_X4_33 dX4_note_60 ?_
      refine jr_bipush C bp_60 dX4_note_63 ?_
      refine jr_icmp_ge C (tgt := 118) dX4_note_65 (by decide) (fun h8 => ?_) (fun h8 => ?_)
      · refine jo_pos h8 ?_
        exact jr_end (fun h => hr s4 h _ _ dX4_note_118)
      refine jo_neg h8 ?_
      refine jr_aload_n C 1 rfl rfl dX4_note_68 ?_
      refine jr_getR C FX_4 0 (oM_17 hB).1 (oM_17 hB).2 ff_4_0.1 ff_4_0.2 (rM_17_0 _ hB) fl_X4_11 dX4_note_69 ?_
      refine jr_aload_n C 1 rfl rfl dX4_note_72 ?_
      refine jr_getI C FX_4 4 (oM_17 hB).1 (oM_17 hB).2 ff_4_4.1 ff_4_4.2 fl_X4_33 dX4_note_73 ?_
      refine jr_iload_n C 2 rfl rfl dX4_note_76 ?_
      refine jr_iast C (oM_18 hB).1 (oM_18 hB).2.1 (oM_18 hB).2.2 dX4_note_77 (jr_ltS fun s9 => ?_)
      refine jr_aload_n C 1 rfl rfl dX4_note_78 ?_
      refine jr_getR C FX_4 1 (oM_17 hB).1 (oM_17 hB).2 ff_4_1.1 ff_4_1.2 (rM_17_1 _ hB) fl_X4_15 dX4_note_79 ?_
      refine jr_aload_n C 1 rfl rfl dX4_note_82 ?_
      refine jr_getI C FX_4 4 (oM_17 hB).1 (oM_17 hB).2 ff_4_4.1 ff_4_4.2 fl_X4_33 dX4_note_83 ?_
      refine jr_iload_n C 3 rfl rfl dX4_note_86 ?_
      refine jr_iast C (oM_19 hB).1 (oM_19 hB).2.1 (oM_19 hB).2.2 dX4_note_87 (jr_ltS fun s10 => ?_)
      refine jr_aload_n C 1 rfl rfl dX4_note_88 ?_
      refine jr_getR C FX_4 2 (oM_17 hB).1 (oM_17 hB).2 ff_4_2.1 ff_4_2.2 (rM_17_2 _ hB) fl_X4_18 dX4_note_89 ?_
      refine jr_aload_n C 1 rfl rfl dX4_note_92 ?_
      refine jr_getI C FX_4 4 (oM_17 hB).1 (oM_17 hB).2 ff_4_4.1 ff_4_4.2 fl_X4_33 dX4_note_93 ?_
      refine jr_iload_n C 4 rfl rfl dX4_note_96 ?_
      refine jr_iast C (oM_20 hB).1 (oM_20 hB).2.1 (oM_20 hB).2.2 dX4_note_97 (jr_ltS fun s11 => ?_)
      refine jr_aload_n C 1 rfl rfl dX4_note_98 ?_
      refine jr_getR C FX_4 3 (oM_17 hB).1 (oM_17 hB).2 ff_4_3.1 ff_4_3.2 (rM_17_3 _ hB) fl_X4_21 dX4_note_99 ?_
      refine jr_aload_n C 1 rfl rfl dX4_note_102 ?_
      refine jr_getI C FX_4 4 (oM_17 hB).1 (oM_17 hB).2 ff_4_4.1 ff_4_4.2 fl_X4_33 dX4_note_103 ?_
      refine jr_iconst C ic_1 dX4_note_106 ?_
      refine jr_iast C (oM_21 hB).1 (oM_21 hB).2.1 (oM_21 hB).2.2 dX4_note_107 (jr_ltS fun s12 => ?_)
      refine jr_aload_n C 1 rfl rfl dX4_note_108 ?_
      refine jr_dup C rfl dX4_note_109 ?_
      refine jr_getI C FX_4 4 (oM_17 hB).1 (oM_17 hB).2 ff_4_4.1 ff_4_4.2 fl_X4_33 dX4_note_110 ?_
      refine jr_iconst C ic_1 dX4_note_113 ?_
      refine jr_iadd C dX4_note_114 ?_
      refine jr_putI C FX_4 4 (oM_17 hB).1 (oM_17 hB).2 ff_4_4.1 ff_4_4.2 rfl rfl fl_X4_33 dX4_note_115 (jr_ltS fun s13 => ?_)
      exact jr_end (fun h => hr s13 h _ _ dX4_note_118)
    refine jo_neg h7 ?_
    refine jr_aload_n C 1 rfl rfl dX4_note_45 ?_
    refine jr_getR C FX_4 3 (oM_17 hB).1 (oM_17 hB).2 ff_4_3.1 ff_4_3.2 (rM_17_3 _ hB) fl_X4_21 dX4_note_46 ?_
    refine jr_iload C 0 rfl dX4_note_49 ?_
    refine jr_dup2 C rfl rfl dX4_note_51 ?_
    refine jr_iald C (oM_21 hB).1 (oM_21 hB).2.1 (oM_21 hB).2.2 dX4_note_52 ?_
    refine jr_iconst C ic_1 dX4_note_53 ?_
    refine jr_iadd C dX4_note_54 ?_
    refine jr_iast C (oM_21 hB).1 (oM_21 hB).2.1 (oM_21 hB).2.2 dX4_note_55 (jr_ltS fun s14 => ?_)
    refine jr_goto C (tgt := 118) dX4_note_56 (by decide) ?_
    exact jr_end (fun h => hr s14 h _ _ dX4_note_118)
  refine jo_neg h3 ?_
  refine jr_aload_n C 0 rfl rfl dX4_note_9 ?_
  refine jr_dup C rfl dX4_note_10 ?_
  refine jr_getI C FX_4 6 (oM_17 hB).1 (oM_17 hB).2 ff_4_6.1 ff_4_6.2 fl_X4_40 dX4_note_11 ?_
  refine jr_iconst C ic_1 dX4_note_14 ?_
  refine jr_iadd C dX4_note_15 ?_
  refine jr_putI C FX_4 6 (oM_17 hB).1 (oM_17 hB).2 ff_4_6.1 ff_4_6.2 rfl rfl fl_X4_40 dX4_note_16 (jr_ltS fun s15 => ?_)
  exact jr_end (fun h => hr s15 h _ _ dX4_note_19)
set_option maxRecDepth 100000 in
theorem c_Lg_note (l : Launch) {B : Nat} (hB : isM B) (v1 : Int32) (v2 : Int32) (v3 : Int32) (s : St) {q : St} (h : f_Lg_note B v1 v2 v3 s = some q) : CT SC l yX4_note cX4_note 5 none 1 24 (fun a => [.ref (a (B + 17)), .int v1, .int v2, .int v3]) s q (fun _ => none) :=
  ct_V okX_C (by decide) (fun _ => Nat.le_of_ble_eq_true rfl) (fun G hl hR hL C hr => t_Lg_note G hR hL C (Acc := fun v => v = q) hB v1 v2 v3 s (fun v hv => by rw [hv]; exact hr) ⟨_, h, rfl⟩)
noncomputable def f_Ma_reportShade (B : Nat) (k2 : Nat) (v1 : Int32) (s : St) : Option St :=
  if (s.1 k2 1) = 0 then
  some s
  else
  (f_Lg_note B v1 (s.1 B 9) (s.1 k2 2) s).bind fun q2 =>
  some q2
set_option maxHeartbeats 4000000 in
set_option maxRecDepth 100000 in
theorem t_Ma_reportShade (G : GG) (hR : gR G = rmx 2 48) (hL : gL G = 3) (C : Cx SC G cX5_reportShade RX5) {Acc : St → Prop} {B : Nat} (hB : isM B) {k2 : Nat} (hk2 : isD k2) (v1 : Int32) (s : St) (hr : ∀ v : St, Acc v → RtV SC G cX5_reportShade v) : JJ SC G Acc (f_Ma_reportShade B k2 v1 s) 0 [(0, .ref (ad G B)), (1, .int v1), (2, .ref (ad G k2))] [] s := by
  unfold f_Ma_reportShade
  refine jr_aload_n C 2 rfl rfl dX5_reportShade_0 ?_
  refine jr_getI C FX_1 1 (oD hk2).1 (oD hk2).2 ff_1_1.1 ff_1_1.2 fl_X5_241 dX5_reportShade_1 ?_
  refine jr_if_eq C (tgt := 23) dX5_reportShade_4 (by decide) (fun h1 => ?_) (fun h1 => ?_)
  · refine jo_pos h1 ?_
    exact jr_end (fun h => hr s h _ _ dX5_reportShade_23)
  refine jo_neg h1 ?_
  refine jr_aload_n C 0 rfl rfl dX5_reportShade_7 ?_
  refine jr_getR C FX_5 4 (oM_0 hB).1 (oM_0 hB).2 ff_5_4.1 ff_5_4.2 (rM_0_4 _ hB) fl_X5_35 dX5_reportShade_8 ?_
  refine jr_iload_n C 1 rfl rfl dX5_reportShade_11 ?_
  refine jr_aload_n C 0 rfl rfl dX5_reportShade_12 ?_
  refine jr_getI C FX_5 9 (oM_0 hB).1 (oM_0 hB).2 ff_5_9.1 ff_5_9.2 fl_X5_108 dX5_reportShade_13 ?_
  refine jr_aload_n C 2 rfl rfl dX5_reportShade_16 ?_
  refine jr_getI C FX_1 2 (oD hk2).1 (oD hk2).2 ff_1_2.1 ff_1_2.2 fl_X5_244 dX5_reportShade_17 ?_
  refine jr_bind (fun q2 e3 => ?_)
  refine jr_callVV C FX_4 km_X5_247 (oM_17 hB).1 (oM_17 hB).2 (rk hR rfl) (c_Lg_note (gl G) hB v1 (s.1 B 9) (s.1 k2 2) s e3) rfl rfl rfl (Nat.le_of_ble_eq_true rfl) dX5_reportShade_20 ?_
  exact jr_end (fun h => hr q2 h _ _ dX5_reportShade_23)
set_option maxRecDepth 100000 in
theorem c_Ma_reportShade (l : Launch) {B : Nat} (hB : isM B) {k2 : Nat} (hk2 : isD k2) (v1 : Int32) (s : St) {q : St} (h : f_Ma_reportShade B k2 v1 s = some q) : CT SC l yX5_reportShade cX5_reportShade 3 none 2 48 (fun a => [.ref (a B), .int v1, .ref (a k2)]) s q (fun _ => none) :=
  ct_V okX_C (by decide) (fun _ => Nat.le_of_ble_eq_true rfl) (fun G hl hR hL C hr => t_Ma_reportShade G hR hL C (Acc := fun v => v = q) hB hk2 v1 s (fun v hv => by rw [hv]; exact hr) ⟨_, h, rfl⟩)
noncomputable def f_Ma_addToMark (B : Nat) (v1 : Int32) (s : St) : Option St :=
  lt (uI s B 13 (((s.1 B 13) * 31) + v1)) fun s1 =>
  some s1
set_option maxHeartbeats 4000000 in
set_option maxRecDepth 100000 in
theorem t_Ma_addToMark (G : GG) (hR : gR G = rmx 0 0) (hL : gL G = 2) (C : Cx SC G cX5_addToMark RX5) {Acc : St → Prop} {B : Nat} (hB : isM B) (v1 : Int32) (s : St) (hr : ∀ v : St, Acc v → RtV SC G cX5_addToMark v) : JJ SC G Acc (f_Ma_addToMark B v1 s) 0 [(0, .ref (ad G B)), (1, .int v1)] [] s := by
  unfold f_Ma_addToMark
  refine jr_aload_n C 0 rfl rfl dX5_addToMark_0 ?_
  refine jr_aload_n C 0 rfl rfl dX5_addToMark_1 ?_
  refine jr_getI C FX_5 13 (oM_0 hB).1 (oM_0 hB).2 ff_5_13.1 ff_5_13.2 fl_X5_90 dX5_addToMark_2 ?_
  refine jr_bipush C bp_31 dX5_addToMark_5 ?_
  refine jr_imul C dX5_addToMark_7 ?_
  refine jr_iload_n C 1 rfl rfl dX5_addToMark_8 ?_
  refine jr_iadd C dX5_addToMark_9 ?_
  refine jr_putI C FX_5 13 (oM_0 hB).1 (oM_0 hB).2 ff_5_13.1 ff_5_13.2 rfl rfl fl_X5_90 dX5_addToMark_10 (jr_ltS fun s1 => ?_)
  exact jr_end (fun h => hr s1 h _ _ dX5_addToMark_13)
set_option maxRecDepth 100000 in
theorem c_Ma_addToMark (l : Launch) {B : Nat} (hB : isM B) (v1 : Int32) (s : St) {q : St} (h : f_Ma_addToMark B v1 s = some q) : CT SC l yX5_addToMark cX5_addToMark 2 none 0 0 (fun a => [.ref (a B), .int v1]) s q (fun _ => none) :=
  ct_V okX_C (by decide) (fun _ => Nat.le_of_ble_eq_true rfl) (fun G hl hR hL C hr => t_Ma_addToMark G hR hL C (Acc := fun v => v = q) hB v1 s (fun v hv => by rw [hv]; exact hr) ⟨_, h, rfl⟩)
noncomputable def f_Ma_trap (B : Nat) (v1 : Int32) (s : St) : Option St :=
  lt (uI s B 11 (1 + v1)) fun s1 =>
  (f_Ma_addToMark B 4 s1).bind fun q2 =>
  (f_Ma_addToMark B v1 q2).bind fun q4 =>
  some q4
set_option maxHeartbeats 4000000 in
set_option maxRecDepth 100000 in
theorem t_Ma_trap (G : GG) (hR : gR G = rmx 1 21) (hL : gL G = 2) (C : Cx SC G cX5_trap RX5) {Acc : St → Prop} {B : Nat} (hB : isM B) (v1 : Int32) (s : St) (hr : ∀ v : St, Acc v → RtV SC G cX5_trap v) : JJ SC G Acc (f_Ma_trap B v1 s) 0 [(0, .ref (ad G B)), (1, .int v1)] [] s := by
  unfold f_Ma_trap
  refine jr_aload_n C 0 rfl rfl dX5_trap_0 ?_
  refine jr_iconst C ic_1 dX5_trap_1 ?_
  refine jr_iload_n C 1 rfl rfl dX5_trap_2 ?_
  refine jr_iadd C dX5_trap_3 ?_
  refine jr_putI C FX_5 11 (oM_0 hB).1 (oM_0 hB).2 ff_5_11.1 ff_5_11.2 rfl rfl fl_X5_102 dX5_trap_4 (jr_ltS fun s1 => ?_)
  refine jr_aload_n C 0 rfl rfl dX5_trap_7 ?_
  refine jr_iconst C ic_4 dX5_trap_8 ?_
  refine jr_bind (fun q2 e3 => ?_)
  refine jr_callVV C FX_5 km_X5_238 (oM_0 hB).1 (oM_0 hB).2 (rk hR rfl) (c_Ma_addToMark (gl G) hB 4 s1 e3) rfl rfl rfl (Nat.le_of_ble_eq_true rfl) dX5_trap_9 ?_
  refine jr_aload_n C 0 rfl rfl dX5_trap_12 ?_
  refine jr_iload_n C 1 rfl rfl dX5_trap_13 ?_
  refine jr_bind (fun q4 e5 => ?_)
  refine jr_callVV C FX_5 km_X5_238 (oM_0 hB).1 (oM_0 hB).2 (rk hR rfl) (c_Ma_addToMark (gl G) hB v1 q2 e5) rfl rfl rfl (Nat.le_of_ble_eq_true rfl) dX5_trap_14 ?_
  exact jr_end (fun h => hr q4 h _ _ dX5_trap_17)
set_option maxRecDepth 100000 in
theorem c_Ma_trap (l : Launch) {B : Nat} (hB : isM B) (v1 : Int32) (s : St) {q : St} (h : f_Ma_trap B v1 s = some q) : CT SC l yX5_trap cX5_trap 2 none 1 21 (fun a => [.ref (a B), .int v1]) s q (fun _ => none) :=
  ct_V okX_C (by decide) (fun _ => Nat.le_of_ble_eq_true rfl) (fun G hl hR hL C hr => t_Ma_trap G hR hL C (Acc := fun v => v = q) hB v1 s (fun v hv => by rw [hv]; exact hr) ⟨_, h, rfl⟩)
noncomputable def f_Ru_least (k0 : Nat) (s : St) : Option Int32 :=
  some ((s.1 k0 0) &&& ((s.1 k0 1) ^^^ (-1)))
set_option maxHeartbeats 4000000 in
set_option maxRecDepth 100000 in
theorem t_Ru_least (G : GG) (hR : gR G = rmx 0 0) (hL : gL G = 1) (C : Cx SC G cX9_least RX9) {Acc : Int32 → Prop} {k0 : Nat} (hk0 : isD k0)  (s : St) (hr : ∀ v : Int32, Acc v → RtI SC G cX9_least v s) : JJ SC G Acc (f_Ru_least k0 s) 0 [(0, .ref (ad G k0))] [] s := by
  unfold f_Ru_least
  refine jr_aload_n C 0 rfl rfl dX9_least_0 ?_
  refine jr_getI C FX_1 0 (oD hk0).1 (oD hk0).2 ff_1_0.1 ff_1_0.2 fl_X9_41 dX9_least_1 ?_
  refine jr_aload_n C 0 rfl rfl dX9_least_4 ?_
  refine jr_getI C FX_1 1 (oD hk0).1 (oD hk0).2 ff_1_1.1 ff_1_1.2 fl_X9_17 dX9_least_5 ?_
  refine jr_iconst C ic_m1 dX9_least_8 ?_
  refine jr_ixor C dX9_least_9 ?_
  refine jr_iand C dX9_least_10 ?_
  exact jr_end (fun h => hr ((s.1 k0 0) &&& ((s.1 k0 1) ^^^ (-1))) h _ _ dX9_least_11)
set_option maxRecDepth 100000 in
theorem c_Ru_least (l : Launch) {k0 : Nat} (hk0 : isD k0)  (s : St) {q : Int32} (h : f_Ru_least k0 s = some q) : CT SC l yX9_least cX9_least 1 (some .int) 0 0 (fun a => [.ref (a k0)]) s s (fun _ => some (.int q)) :=
  ct_I okX_C (by decide) (fun _ => Nat.le_of_ble_eq_true rfl) (fun G hl hR hL C hr => t_Ru_least G hR hL C (Acc := fun v => v = q) hk0  s (fun v hv => by rw [hv]; exact hr) ⟨_, h, rfl⟩)
noncomputable def f_Ru_most (k0 : Nat) (s : St) : Option Int32 :=
  some ((s.1 k0 0) ||| (s.1 k0 1))
set_option maxHeartbeats 4000000 in
set_option maxRecDepth 100000 in
theorem t_Ru_most (G : GG) (hR : gR G = rmx 0 0) (hL : gL G = 1) (C : Cx SC G cX9_most RX9) {Acc : Int32 → Prop} {k0 : Nat} (hk0 : isD k0)  (s : St) (hr : ∀ v : Int32, Acc v → RtI SC G cX9_most v s) : JJ SC G Acc (f_Ru_most k0 s) 0 [(0, .ref (ad G k0))] [] s := by
  unfold f_Ru_most
  refine jr_aload_n C 0 rfl rfl dX9_most_0 ?_
  refine jr_getI C FX_1 0 (oD hk0).1 (oD hk0).2 ff_1_0.1 ff_1_0.2 fl_X9_41 dX9_most_1 ?_
  refine jr_aload_n C 0 rfl rfl dX9_most_4 ?_
  refine jr_getI C FX_1 1 (oD hk0).1 (oD hk0).2 ff_1_1.1 ff_1_1.2 fl_X9_17 dX9_most_5 ?_
  refine jr_ior C dX9_most_8 ?_
  exact jr_end (fun h => hr ((s.1 k0 0) ||| (s.1 k0 1)) h _ _ dX9_most_9)
set_option maxRecDepth 100000 in
theorem c_Ru_most (l : Launch) {k0 : Nat} (hk0 : isD k0)  (s : St) {q : Int32} (h : f_Ru_most k0 s = some q) : CT SC l yX9_most cX9_most 1 (some .int) 0 0 (fun a => [.ref (a k0)]) s s (fun _ => some (.int q)) :=
  ct_I okX_C (by decide) (fun _ => Nat.le_of_ble_eq_true rfl) (fun G hl hR hL C hr => t_Ru_most G hR hL C (Acc := fun v => v = q) hk0  s (fun v hv => by rw [hv]; exact hr) ⟨_, h, rfl⟩)
noncomputable def f_Ru_left (v0 : Int32) : Int32 :=
  (v0 ||| (-v0))
set_option maxHeartbeats 4000000 in
set_option maxRecDepth 100000 in
theorem t_Ru_left (G : GG) (hR : gR G = rmx 0 0) (hL : gL G = 1) (C : Cx SC G cX9_left RX9) {Acc : Int32 → Prop}  (v0 : Int32) (s : St) (hr : ∀ v : Int32, Acc v → RtI SC G cX9_left v s) : JJ SC G Acc (some (f_Ru_left v0)) 0 [(0, .int v0)] [] s := by
  unfold f_Ru_left
  refine jr_iload_n C 0 rfl rfl dX9_left_0 ?_
  refine jr_iload_n C 0 rfl rfl dX9_left_1 ?_
  refine jr_ineg C dX9_left_2 ?_
  refine jr_ior C dX9_left_3 ?_
  exact jr_end (fun h => hr (v0 ||| (-v0)) h _ _ dX9_left_4)
set_option maxRecDepth 100000 in
theorem c_Ru_left (l : Launch)  (v0 : Int32) (s : St) : CT SC l yX9_left cX9_left 1 (some .int) 0 0 (fun a => [.int v0]) s s (fun _ => some (.int (f_Ru_left v0))) :=
  ct_I okX_C (by decide) (fun _ => Nat.le_of_ble_eq_true rfl) (fun G hl hR hL C hr => t_Ru_left G hR hL C (Acc := fun v => v = (f_Ru_left v0))  v0 s (fun v hv => by rw [hv]; exact hr) ⟨_, rfl, rfl⟩)
noncomputable def f_Ru_isSetZero (k0 : Nat) (s : St) : Option Int32 :=
  if (s.1 k0 1) = 0 then
  (if (s.1 k0 0) = 0 then
  some 1
  else
  some 0)
  else
  some 0
set_option maxHeartbeats 4000000 in
set_option maxRecDepth 100000 in
theorem t_Ru_isSetZero (G : GG) (hR : gR G = rmx 0 0) (hL : gL G = 1) (C : Cx SC G cX9_isSetZero RX9) {Acc : Int32 → Prop} {k0 : Nat} (hk0 : isD k0)  (s : St) (hr : ∀ v : Int32, Acc v → RtZ SC G cX9_isSetZero v s) : JJ SC G Acc (f_Ru_isSetZero k0 s) 0 [(0, .ref (ad G k0))] [] s := by
  unfold f_Ru_isSetZero
  refine jr_aload_n C 0 rfl rfl dX9_isSetZero_0 ?_
  refine jr_getI C FX_1 1 (oD hk0).1 (oD hk0).2 ff_1_1.1 ff_1_1.2 fl_X9_17 dX9_isSetZero_1 ?_
  refine jr_if_ne C (tgt := 18) dX9_isSetZero_4 (by decide) (fun h1 => ?_) (fun h1 => ?_)
  · refine jo_neg h1 ?_
    refine jr_iconst C ic_0 dX9_isSetZero_18 ?_
    exact jr_end (fun h => hr 0 h _ _ _ bN0 dX9_isSetZero_19)
  refine jo_pos h1 ?_
  refine jr_aload_n C 0 rfl rfl dX9_isSetZero_7 ?_
  refine jr_getI C FX_1 0 (oD hk0).1 (oD hk0).2 ff_1_0.1 ff_1_0.2 fl_X9_41 dX9_isSetZero_8 ?_
  refine jr_if_ne C (tgt := 18) dX9_isSetZero_11 (by decide) (fun h2 => ?_) (fun h2 => ?_)
  · refine jo_neg h2 ?_
    refine jr_iconst C ic_0 dX9_isSetZero_18 ?_
    exact jr_end (fun h => hr 0 h _ _ _ bN0 dX9_isSetZero_19)
  refine jo_pos h2 ?_
  refine jr_iconst C ic_1 dX9_isSetZero_14 ?_
  refine jr_goto C (tgt := 19) dX9_isSetZero_15 (by decide) ?_
  exact jr_end (fun h => hr 1 h _ _ _ bN1 dX9_isSetZero_19)
set_option maxRecDepth 100000 in
theorem c_Ru_isSetZero (l : Launch) {k0 : Nat} (hk0 : isD k0)  (s : St) {q : Int32} (h : f_Ru_isSetZero k0 s = some q) : CT SC l yX9_isSetZero cX9_isSetZero 1 (some .boolean) 0 0 (fun a => [.ref (a k0)]) s s (fun _ => some (.int q)) :=
  ct_Z okX_C (by decide) (fun _ => Nat.le_of_ble_eq_true rfl) (fun G hl hR hL C hr => t_Ru_isSetZero G hR hL C (Acc := fun v => v = q) hk0  s (fun v hv => by rw [hv]; exact hr) ⟨_, h, rfl⟩)
noncomputable def f_Ru_any (v0 : Int32) : Int32 :=
  if v0 = 0 then
  0
  else
  (-1)
set_option maxHeartbeats 4000000 in
set_option maxRecDepth 100000 in
theorem t_Ru_any (G : GG) (hR : gR G = rmx 0 0) (hL : gL G = 1) (C : Cx SC G cX9_any RX9) {Acc : Int32 → Prop}  (v0 : Int32) (s : St) (hr : ∀ v : Int32, Acc v → RtI SC G cX9_any v s) : JJ SC G Acc (some (f_Ru_any v0)) 0 [(0, .int v0)] [] s := by
  unfold f_Ru_any
  refine jr_iload_n C 0 rfl rfl dX9_any_0 ?_
  refine jr_if_eq C (tgt := 8) dX9_any_1 (by decide) (fun h1 => ?_) (fun h1 => ?_)
  · refine jo_posP h1 ?_
    refine jr_iconst C ic_0 dX9_any_8 ?_
    exact jr_end (fun h => hr 0 h _ _ dX9_any_9)
  refine jo_negP h1 ?_
  refine jr_iconst C ic_m1 dX9_any_4 ?_
  refine jr_goto C (tgt := 9) dX9_any_5 (by decide) ?_
  exact jr_end (fun h => hr (-1) h _ _ dX9_any_9)
set_option maxRecDepth 100000 in
theorem c_Ru_any (l : Launch)  (v0 : Int32) (s : St) : CT SC l yX9_any cX9_any 1 (some .int) 0 0 (fun a => [.int v0]) s s (fun _ => some (.int (f_Ru_any v0))) :=
  ct_I okX_C (by decide) (fun _ => Nat.le_of_ble_eq_true rfl) (fun G hl hR hL C hr => t_Ru_any G hR hL C (Acc := fun v => v = (f_Ru_any v0))  v0 s (fun v hv => by rw [hv]; exact hr) ⟨_, rfl, rfl⟩)
noncomputable def f_Ru_moved (v0 : Int32) (v1 : Int32) (v2 : Int32) : Int32 :=
  if v0 = 12 then
  (v1 <<< ((v2 &&& 31) &&& 31))
  else if v0 = 13 then
  (((v1).toUInt32 >>> (((v2 &&& 31) : Int32).toUInt32 &&& Int32.toUInt32 31)).toInt32)
  else if v0 = 14 then
  (v1 >>> ((v2 &&& 31) &&& 31))
  else if v0 = 15 then
  v1
  else if v0 = 16 then
  v1
  else if v0 = 17 then
  v1
  else if v0 = 18 then
  v1
  else if v0 = 19 then
  ((v1 <<< (24 &&& 31)) >>> (24 &&& 31))
  else if v0 = 20 then
  ((v1 <<< (16 &&& 31)) >>> (16 &&& 31))
  else v1
set_option maxHeartbeats 4000000 in
set_option maxRecDepth 100000 in
theorem t_Ru_moved (G : GG) (hR : gR G = rmx 0 0) (hL : gL G = 3) (C : Cx SC G cX9_moved RX9) {Acc : Int32 → Prop}  (v0 : Int32) (v1 : Int32) (v2 : Int32) (s : St) (hr : ∀ v : Int32, Acc v → RtI SC G cX9_moved v s) : JJ SC G Acc (some (f_Ru_moved v0 v1 v2)) 0 [(0, .int v0), (1, .int v1), (2, .int v2)] [] s := by
  unfold f_Ru_moved
  refine jr_iload_n C 0 rfl rfl dX9_moved_0 ?_
  refine jo_casesP (fun h1 => ?_) (fun h1 => ?_)
  · refine jr_tabIn C dX9_moved_1 h1 (by decide) (by decide) rfl (tgt := 52) (by decide) ?_
    refine jr_iload_n C 1 rfl rfl dX9_moved_52 ?_
    refine jr_iload_n C 2 rfl rfl dX9_moved_53 ?_
    refine jr_bipush C bp_31 dX9_moved_54 ?_
    refine jr_iand C dX9_moved_56 ?_
    refine jr_ishl C dX9_moved_57 ?_
    exact jr_end (fun h => hr (v1 <<< ((v2 &&& 31) &&& 31)) h _ _ dX9_moved_58)
  refine jo_casesP (fun h2 => ?_) (fun h2 => ?_)
  · refine jr_tabIn C dX9_moved_1 h2 (by decide) (by decide) rfl (tgt := 59) (by decide) ?_
    refine jr_iload_n C 1 rfl rfl dX9_moved_59 ?_
    refine jr_iload_n C 2 rfl rfl dX9_moved_60 ?_
    refine jr_bipush C bp_31 dX9_moved_61 ?_
    refine jr_iand C dX9_moved_63 ?_
    refine jr_iushr C dX9_moved_64 ?_
    exact jr_end (fun h => hr (((v1).toUInt32 >>> (((v2 &&& 31) : Int32).toUInt32 &&& Int32.toUInt32 31)).toInt32) h _ _ dX9_moved_65)
  refine jo_casesP (fun h3 => ?_) (fun h3 => ?_)
  · refine jr_tabIn C dX9_moved_1 h3 (by decide) (by decide) rfl (tgt := 66) (by decide) ?_
    refine jr_iload_n C 1 rfl rfl dX9_moved_66 ?_
    refine jr_iload_n C 2 rfl rfl dX9_moved_67 ?_
    refine jr_bipush C bp_31 dX9_moved_68 ?_
    refine jr_iand C dX9_moved_70 ?_
    refine jr_ishr C dX9_moved_71 ?_
    exact jr_end (fun h => hr (v1 >>> ((v2 &&& 31) &&& 31)) h _ _ dX9_moved_72)
  refine jo_casesP (fun h4 => ?_) (fun h4 => ?_)
  · refine jr_tabIn C dX9_moved_1 h4 (by decide) (by decide) rfl (tgt := 89) (by decide) ?_
    refine jr_iload_n C 1 rfl rfl dX9_moved_89 ?_
    exact jr_end (fun h => hr v1 h _ _ dX9_moved_90)
  refine jo_casesP (fun h5 => ?_) (fun h5 => ?_)
  · refine jr_tabIn C dX9_moved_1 h5 (by decide) (by decide) rfl (tgt := 89) (by decide) ?_
    refine jr_iload_n C 1 rfl rfl dX9_moved_89 ?_
    exact jr_end (fun h => hr v1 h _ _ dX9_moved_90)
  refine jo_casesP (fun h6 => ?_) (fun h6 => ?_)
  · refine jr_tabIn C dX9_moved_1 h6 (by decide) (by decide) rfl (tgt := 89) (by decide) ?_
    refine jr_iload_n C 1 rfl rfl dX9_moved_89 ?_
    exact jr_end (fun h => hr v1 h _ _ dX9_moved_90)
  refine jo_casesP (fun h7 => ?_) (fun h7 => ?_)
  · refine jr_tabIn C dX9_moved_1 h7 (by decide) (by decide) rfl (tgt := 89) (by decide) ?_
    refine jr_iload_n C 1 rfl rfl dX9_moved_89 ?_
    exact jr_end (fun h => hr v1 h _ _ dX9_moved_90)
  refine jo_casesP (fun h8 => ?_) (fun h8 => ?_)
  · refine jr_tabIn C dX9_moved_1 h8 (by decide) (by decide) rfl (tgt := 73) (by decide) ?_
    refine jr_iload_n C 1 rfl rfl dX9_moved_73 ?_
    refine jr_bipush C bp_24 dX9_moved_74 ?_
    refine jr_ishl C dX9_moved_76 ?_
    refine jr_bipush C bp_24 dX9_moved_77 ?_
    refine jr_ishr C dX9_moved_79 ?_
    exact jr_end (fun h => hr ((v1 <<< (24 &&& 31)) >>> (24 &&& 31)) h _ _ dX9_moved_80)
  refine jo_casesP (fun h9 => ?_) (fun h9 => ?_)
  · refine jr_tabIn C dX9_moved_1 h9 (by decide) (by decide) rfl (tgt := 81) (by decide) ?_
    refine jr_iload_n C 1 rfl rfl dX9_moved_81 ?_
    refine jr_bipush C bp_16 dX9_moved_82 ?_
    refine jr_ishl C dX9_moved_84 ?_
    refine jr_bipush C bp_16 dX9_moved_85 ?_
    refine jr_ishr C dX9_moved_87 ?_
    exact jr_end (fun h => hr ((v1 <<< (16 &&& 31)) >>> (16 &&& 31)) h _ _ dX9_moved_88)
  refine jr_tabOut C dX9_moved_1 (by have e0 := lv_neT h1 (a := 12) (by decide); have e1 := lv_neT h2 (a := 13) (by decide); have e2 := lv_neT h3 (a := 14) (by decide); have e3 := lv_neT h4 (a := 15) (by decide); have e4 := lv_neT h5 (a := 16) (by decide); have e5 := lv_neT h6 (a := 17) (by decide); have e6 := lv_neT h7 (a := 18) (by decide); have e7 := lv_neT h8 (a := 19) (by decide); have e8 := lv_neT h9 (a := 20) (by decide); omega) (tgt := 89) (by decide) ?_
  refine jr_iload_n C 1 rfl rfl dX9_moved_89 ?_
  exact jr_end (fun h => hr v1 h _ _ dX9_moved_90)
set_option maxRecDepth 100000 in
theorem c_Ru_moved (l : Launch)  (v0 : Int32) (v1 : Int32) (v2 : Int32) (s : St) : CT SC l yX9_moved cX9_moved 3 (some .int) 0 0 (fun a => [.int v0, .int v1, .int v2]) s s (fun _ => some (.int (f_Ru_moved v0 v1 v2))) :=
  ct_I okX_C (by decide) (fun _ => Nat.le_of_ble_eq_true rfl) (fun G hl hR hL C hr => t_Ru_moved G hR hL C (Acc := fun v => v = (f_Ru_moved v0 v1 v2))  v0 v1 v2 s (fun v hv => by rw [hv]; exact hr) ⟨_, rfl, rfl⟩)
noncomputable def f_Ru_shadeOfEqual (k0 : Nat) (k1 : Nat) (v2 : Int32) (s : St) : Option Int32 :=
  lt ((s.1 k0 1) ||| (s.1 k1 1)) fun x1 =>
  if x1 = 0 then
  some 0
  else
  if v2 = 0 then
  some 1
  else
  if (((s.1 k0 0) ^^^ (s.1 k1 0)) &&& (x1 ^^^ (-1))) = 0 then
  some 1
  else
  some 0
set_option maxHeartbeats 4000000 in
set_option maxRecDepth 100000 in
theorem t_Ru_shadeOfEqual (G : GG) (hR : gR G = rmx 0 0) (hL : gL G = 4) (C : Cx SC G cX9_shadeOfEqual RX9) {Acc : Int32 → Prop} {k0 : Nat} (hk0 : isD k0) {k1 : Nat} (hk1 : isD k1) (v2 : Int32) (s : St) (hr : ∀ v : Int32, Acc v → RtI SC G cX9_shadeOfEqual v s) : JJ SC G Acc (f_Ru_shadeOfEqual k0 k1 v2 s) 0 [(0, .ref (ad G k0)), (1, .ref (ad G k1)), (2, .int v2)] [] s := by
  unfold f_Ru_shadeOfEqual
  refine jr_aload_n C 0 rfl rfl dX9_shadeOfEqual_0 ?_
  refine jr_getI C FX_1 1 (oD hk0).1 (oD hk0).2 ff_1_1.1 ff_1_1.2 fl_X9_17 dX9_shadeOfEqual_1 ?_
  refine jr_aload_n C 1 rfl rfl dX9_shadeOfEqual_4 ?_
  refine jr_getI C FX_1 1 (oD hk1).1 (oD hk1).2 ff_1_1.1 ff_1_1.2 fl_X9_17 dX9_shadeOfEqual_5 ?_
  refine jr_ior C dX9_shadeOfEqual_8 ?_
  refine jr_ltI (fun x1 => ?_)
  refine jr_istore_n C (lv' := [(3, .int x1), (0, .ref (ad G k0)), (1, .ref (ad G k1)), (2, .int v2)]) (ltL hL rfl) rfl rfl dX9_shadeOfEqual_9 ?_
  refine jr_iload_n C 0 rfl rfl dX9_shadeOfEqual_10 ?_
  refine jr_if_eq C (tgt := 34) dX9_shadeOfEqual_11 (by decide) (fun h2 => ?_) (fun h2 => ?_)
  · refine jo_pos h2 ?_
    refine jr_iconst C ic_0 dX9_shadeOfEqual_34 ?_
    exact jr_end (fun h => hr 0 h _ _ dX9_shadeOfEqual_35)
  refine jo_neg h2 ?_
  refine jr_iload_n C 3 rfl rfl dX9_shadeOfEqual_14 ?_
  refine jr_if_eq C (tgt := 36) dX9_shadeOfEqual_15 (by decide) (fun h3 => ?_) (fun h3 => ?_)
  · refine jo_pos h3 ?_
    refine jr_iconst C ic_1 dX9_shadeOfEqual_36 ?_
    exact jr_end (fun h => hr 1 h _ _ dX9_shadeOfEqual_37)
  refine jo_neg h3 ?_
  refine jr_aload_n C 1 rfl rfl dX9_shadeOfEqual_18 ?_
  refine jr_getI C FX_1 0 (oD hk0).1 (oD hk0).2 ff_1_0.1 ff_1_0.2 fl_X9_41 dX9_shadeOfEqual_19 ?_
  refine jr_aload_n C 2 rfl rfl dX9_shadeOfEqual_22 ?_
  refine jr_getI C FX_1 0 (oD hk1).1 (oD hk1).2 ff_1_0.1 ff_1_0.2 fl_X9_41 dX9_shadeOfEqual_23 ?_
  refine jr_ixor C dX9_shadeOfEqual_26 ?_
  refine jr_iload_n C 0 rfl rfl dX9_shadeOfEqual_27 ?_
  refine jr_iconst C ic_m1 dX9_shadeOfEqual_28 ?_
  refine jr_ixor C dX9_shadeOfEqual_29 ?_
  refine jr_iand C dX9_shadeOfEqual_30 ?_
  refine jr_if_eq C (tgt := 36) dX9_shadeOfEqual_31 (by decide) (fun h4 => ?_) (fun h4 => ?_)
  · refine jo_pos h4 ?_
    refine jr_iconst C ic_1 dX9_shadeOfEqual_36 ?_
    exact jr_end (fun h => hr 1 h _ _ dX9_shadeOfEqual_37)
  refine jo_neg h4 ?_
  refine jr_iconst C ic_0 dX9_shadeOfEqual_34 ?_
  exact jr_end (fun h => hr 0 h _ _ dX9_shadeOfEqual_35)
set_option maxRecDepth 100000 in
theorem c_Ru_shadeOfEqual (l : Launch) {k0 : Nat} (hk0 : isD k0) {k1 : Nat} (hk1 : isD k1) (v2 : Int32) (s : St) {q : Int32} (h : f_Ru_shadeOfEqual k0 k1 v2 s = some q) : CT SC l yX9_shadeOfEqual cX9_shadeOfEqual 4 (some .int) 0 0 (fun a => [.ref (a k0), .ref (a k1), .int v2]) s s (fun _ => some (.int q)) :=
  ct_I okX_C (by decide) (fun _ => Nat.le_of_ble_eq_true rfl) (fun G hl hR hL C hr => t_Ru_shadeOfEqual G hR hL C (Acc := fun v => v = q) hk0 hk1 v2 s (fun v hv => by rw [hv]; exact hr) ⟨_, h, rfl⟩)
noncomputable def f_Ru_isBelow (v0 : Int32) (v1 : Int32) : Int32 :=
  if (v1 + (-2147483648)) ≤ (v0 + (-2147483648)) then
  0
  else
  1
set_option maxHeartbeats 4000000 in
set_option maxRecDepth 100000 in
theorem t_Ru_isBelow (G : GG) (hR : gR G = rmx 0 0) (hL : gL G = 2) (C : Cx SC G cX9_isBelow RX9) {Acc : Int32 → Prop}  (v0 : Int32) (v1 : Int32) (s : St) (hr : ∀ v : Int32, Acc v → RtZ SC G cX9_isBelow v s) : JJ SC G Acc (some (f_Ru_isBelow v0 v1)) 0 [(0, .int v0), (1, .int v1)] [] s := by
  unfold f_Ru_isBelow
  refine jr_iload_n C 0 rfl rfl dX9_isBelow_0 ?_
  refine jr_ldc C kc_X9_48 dX9_isBelow_1 ?_
  refine jr_iadd C dX9_isBelow_3 ?_
  refine jr_iload_n C 1 rfl rfl dX9_isBelow_4 ?_
  refine jr_ldc C kc_X9_48 dX9_isBelow_5 ?_
  refine jr_iadd C dX9_isBelow_7 ?_
  refine jr_icmp_ge C (tgt := 15) dX9_isBelow_8 (by decide) (fun h1 => ?_) (fun h1 => ?_)
  · refine jo_posP h1 ?_
    refine jr_iconst C ic_0 dX9_isBelow_15 ?_
    exact jr_end (fun h => hr 0 h _ _ _ bN0 dX9_isBelow_16)
  refine jo_negP h1 ?_
  refine jr_iconst C ic_1 dX9_isBelow_11 ?_
  refine jr_goto C (tgt := 16) dX9_isBelow_12 (by decide) ?_
  exact jr_end (fun h => hr 1 h _ _ _ bN1 dX9_isBelow_16)
set_option maxRecDepth 100000 in
theorem c_Ru_isBelow (l : Launch)  (v0 : Int32) (v1 : Int32) (s : St) : CT SC l yX9_isBelow cX9_isBelow 2 (some .boolean) 0 0 (fun a => [.int v0, .int v1]) s s (fun _ => some (.int (f_Ru_isBelow v0 v1))) :=
  ct_Z okX_C (by decide) (fun _ => Nat.le_of_ble_eq_true rfl) (fun G hl hR hL C hr => t_Ru_isBelow G hR hL C (Acc := fun v => v = (f_Ru_isBelow v0 v1))  v0 v1 s (fun v hv => by rw [hv]; exact hr) ⟨_, rfl, rfl⟩)
noncomputable def f_Ru_shadeOfBelow_J57 (o0 : Nat) (o1 : Nat) (v3 : Int32) (v4 : Int32) (v5 : Int32) (w0 : Int32) (s : St) : Option Int32 :=
  lt (f_Ru_isBelow (v4 ||| (s.1 o0 1)) (v5 &&& ((s.1 o1 1) ^^^ (-1)))) fun x5 =>
  if v3 = 0 then
  some 1
  else
  if w0 = 0 then
  (if x5 = 0 then
  some 1
  else
  some 0)
  else
  some 0
set_option maxHeartbeats 4000000 in
set_option maxRecDepth 100000 in
theorem t_Ru_shadeOfBelow_J57 (G : GG) (hR : gR G = rmx 1 21) (hL : gL G = 8) (C : Cx SC G cX9_shadeOfBelow RX9) {Acc : Int32 → Prop} {o0 : Nat} (ho0 : isD o0) {o1 : Nat} (ho1 : isD o1) (v3 : Int32) (v4 : Int32) (v5 : Int32) (w0 : Int32) (s : St) (hr : ∀ v : Int32, Acc v → RtI SC G cX9_shadeOfBelow v s) : JJ SC G Acc (f_Ru_shadeOfBelow_J57 o0 o1 v3 v4 v5 w0 s) 57 [(0, .ref (ad G o0)), (1, .ref (ad G o1)), (3, .int v3), (4, .int v4), (5, .int v5)] [.int w0] s := by
  unfold f_Ru_shadeOfBelow_J57
  refine jr_istore C (lv' := [(6, .int w0), (0, .ref (ad G o0)), (1, .ref (ad G o1)), (3, .int v3), (4, .int v4), (5, .int v5)]) (ltL hL rfl) rfl dX9_shadeOfBelow_57 ?_
  refine jr_iload C 4 rfl dX9_shadeOfBelow_59 ?_
  refine jr_aload_n C 1 rfl rfl dX9_shadeOfBelow_61 ?_
  refine jr_getI C FX_1 1 (oD ho0).1 (oD ho0).2 ff_1_1.1 ff_1_1.2 fl_X9_17 dX9_shadeOfBelow_62 ?_
  refine jr_ior C dX9_shadeOfBelow_65 ?_
  refine jr_iload C 5 rfl dX9_shadeOfBelow_66 ?_
  refine jr_aload_n C 2 rfl rfl dX9_shadeOfBelow_68 ?_
  refine jr_getI C FX_1 1 (oD ho1).1 (oD ho1).2 ff_1_1.1 ff_1_1.2 fl_X9_17 dX9_shadeOfBelow_69 ?_
  refine jr_iconst C ic_m1 dX9_shadeOfBelow_72 ?_
  refine jr_ixor C dX9_shadeOfBelow_73 ?_
  refine jr_iand C dX9_shadeOfBelow_74 ?_
  refine jr_callSI C km_X9_7 (rk hR rfl) (c_Ru_isBelow (gl G) (v4 ||| (s.1 o0 1)) (v5 &&& ((s.1 o1 1) ^^^ (-1))) s) rfl rfl rfl (Nat.le_of_ble_eq_true rfl) dX9_shadeOfBelow_75 ?_
  refine jr_ltI (fun x5 => ?_)
  refine jr_istore C (lv' := [(7, .int x5), (6, .int w0), (0, .ref (ad G o0)), (1, .ref (ad G o1)), (3, .int v3), (4, .int v4), (5, .int v5)]) (ltL hL rfl) rfl dX9_shadeOfBelow_78 ?_
  refine jr_iload_n C 4 rfl rfl dX9_shadeOfBelow_80 ?_
  refine jr_if_eq C (tgt := 98) dX9_shadeOfBelow_81 (by decide) (fun h6 => ?_) (fun h6 => ?_)
  · refine jo_pos h6 ?_
    refine jr_iconst C ic_1 dX9_shadeOfBelow_98 ?_
    exact jr_end (fun h => hr 1 h _ _ dX9_shadeOfBelow_99)
  refine jo_neg h6 ?_
  refine jr_iload C 1 rfl dX9_shadeOfBelow_84 ?_
  refine jr_if_ne C (tgt := 94) dX9_shadeOfBelow_86 (by decide) (fun h7 => ?_) (fun h7 => ?_)
  · refine jo_neg h7 ?_
    refine jr_iconst C ic_0 dX9_shadeOfBelow_94 ?_
    refine jr_goto C (tgt := 99) dX9_shadeOfBelow_95 (by decide) ?_
    exact jr_end (fun h => hr 0 h _ _ dX9_shadeOfBelow_99)
  refine jo_pos h7 ?_
  refine jr_iload C 0 rfl dX9_shadeOfBelow_89 ?_
  refine jr_if_eq C (tgt := 98) dX9_shadeOfBelow_91 (by decide) (fun h8 => ?_) (fun h8 => ?_)
  · refine jo_pos h8 ?_
    refine jr_iconst C ic_1 dX9_shadeOfBelow_98 ?_
    exact jr_end (fun h => hr 1 h _ _ dX9_shadeOfBelow_99)
  refine jo_neg h8 ?_
  refine jr_iconst C ic_0 dX9_shadeOfBelow_94 ?_
  refine jr_goto C (tgt := 99) dX9_shadeOfBelow_95 (by decide) ?_
  exact jr_end (fun h => hr 0 h _ _ dX9_shadeOfBelow_99)
noncomputable def f_Ru_shadeOfBelow (k0 : Nat) (k1 : Nat) (v2 : Int32) (v3 : Int32) (s : St) : Option Int32 :=
  if ((s.1 k0 1) ||| (s.1 k1 1)) = 0 then
  some 0
  else
  lt ((s.1 k0 0) ^^^ v2) fun x2 =>
  lt ((s.1 k1 0) ^^^ v2) fun x3 =>
  if (f_Ru_isBelow (x2 &&& ((s.1 k0 1) ^^^ (-1))) (x3 ||| (s.1 k1 1))) = 0 then
  f_Ru_shadeOfBelow_J57 k0 k1 v3 x2 x3 1 s
  else
  f_Ru_shadeOfBelow_J57 k0 k1 v3 x2 x3 0 s
set_option maxHeartbeats 4000000 in
set_option maxRecDepth 100000 in
theorem t_Ru_shadeOfBelow (G : GG) (hR : gR G = rmx 1 21) (hL : gL G = 8) (C : Cx SC G cX9_shadeOfBelow RX9) {Acc : Int32 → Prop} {k0 : Nat} (hk0 : isD k0) {k1 : Nat} (hk1 : isD k1) (v2 : Int32) (v3 : Int32) (s : St) (hr : ∀ v : Int32, Acc v → RtI SC G cX9_shadeOfBelow v s) : JJ SC G Acc (f_Ru_shadeOfBelow k0 k1 v2 v3 s) 0 [(0, .ref (ad G k0)), (1, .ref (ad G k1)), (2, .int v2), (3, .int v3)] [] s := by
  unfold f_Ru_shadeOfBelow
  refine jr_aload_n C 0 rfl rfl dX9_shadeOfBelow_0 ?_
  refine jr_getI C FX_1 1 (oD hk0).1 (oD hk0).2 ff_1_1.1 ff_1_1.2 fl_X9_17 dX9_shadeOfBelow_1 ?_
  refine jr_aload_n C 1 rfl rfl dX9_shadeOfBelow_4 ?_
  refine jr_getI C FX_1 1 (oD hk1).1 (oD hk1).2 ff_1_1.1 ff_1_1.2 fl_X9_17 dX9_shadeOfBelow_5 ?_
  refine jr_ior C dX9_shadeOfBelow_8 ?_
  refine jr_if_ne C (tgt := 14) dX9_shadeOfBelow_9 (by decide) (fun h1 => ?_) (fun h1 => ?_)
  · refine jo_neg h1 ?_
    refine jr_aload_n C 0 rfl rfl dX9_shadeOfBelow_14 ?_
    refine jr_getI C FX_1 0 (oD hk0).1 (oD hk0).2 ff_1_0.1 ff_1_0.2 fl_X9_41 dX9_shadeOfBelow_15 ?_
    refine jr_iload_n C 2 rfl rfl dX9_shadeOfBelow_18 ?_
    refine jr_ixor C dX9_shadeOfBelow_19 ?_
    refine jr_ltI (fun x2 => ?_)
    refine jr_istore C (lv' := [(4, .int x2), (0, .ref (ad G k0)), (1, .ref (ad G k1)), (2, .int v2), (3, .int v3)]) (ltL hL rfl) rfl dX9_shadeOfBelow_20 ?_
    refine jr_aload_n C 2 rfl rfl dX9_shadeOfBelow_22 ?_
    refine jr_getI C FX_1 0 (oD hk1).1 (oD hk1).2 ff_1_0.1 ff_1_0.2 fl_X9_41 dX9_shadeOfBelow_23 ?_
    refine jr_iload_n C 3 rfl rfl dX9_shadeOfBelow_26 ?_
    refine jr_ixor C dX9_shadeOfBelow_27 ?_
    refine jr_ltI (fun x3 => ?_)
    refine jr_istore C (lv' := [(5, .int x3), (4, .int x2), (0, .ref (ad G k0)), (1, .ref (ad G k1)), (2, .int v2), (3, .int v3)]) (ltL hL rfl) rfl dX9_shadeOfBelow_28 ?_
    refine jr_iload C 1 rfl dX9_shadeOfBelow_30 ?_
    refine jr_aload_n C 2 rfl rfl dX9_shadeOfBelow_32 ?_
    refine jr_getI C FX_1 1 (oD hk0).1 (oD hk0).2 ff_1_1.1 ff_1_1.2 fl_X9_17 dX9_shadeOfBelow_33 ?_
    refine jr_iconst C ic_m1 dX9_shadeOfBelow_36 ?_
    refine jr_ixor C dX9_shadeOfBelow_37 ?_
    refine jr_iand C dX9_shadeOfBelow_38 ?_
    refine jr_iload C 0 rfl dX9_shadeOfBelow_39 ?_
    refine jr_aload_n C 3 rfl rfl dX9_shadeOfBelow_41 ?_
    refine jr_getI C FX_1 1 (oD hk1).1 (oD hk1).2 ff_1_1.1 ff_1_1.2 fl_X9_17 dX9_shadeOfBelow_42 ?_
    refine jr_ior C dX9_shadeOfBelow_45 ?_
    refine jr_callSI C km_X9_7 (rk hR rfl) (c_Ru_isBelow (gl G) (x2 &&& ((s.1 k0 1) ^^^ (-1))) (x3 ||| (s.1 k1 1)) s) rfl rfl rfl (Nat.le_of_ble_eq_true rfl) dX9_shadeOfBelow_46 ?_
    refine jr_if_ne C (tgt := 56) dX9_shadeOfBelow_49 (by decide) (fun h4 => ?_) (fun h4 => ?_)
    · refine jo_neg h4 ?_
      refine jr_iconst C ic_0 dX9_shadeOfBelow_56 ?_
      refine jr_lv [2, 3, 5, 1, 0] rfl ?_
      exact t_Ru_shadeOfBelow_J57 G hR hL C hk0 hk1 v3 x2 x3 0 s hr
    refine jo_pos h4 ?_
    refine jr_iconst C ic_1 dX9_shadeOfBelow_52 ?_
    refine jr_goto C (tgt := 57) dX9_shadeOfBelow_53 (by decide) ?_
    refine jr_lv [2, 3, 5, 1, 0] rfl ?_
    exact t_Ru_shadeOfBelow_J57 G hR hL C hk0 hk1 v3 x2 x3 1 s hr
  refine jo_pos h1 ?_
  refine jr_iconst C ic_0 dX9_shadeOfBelow_12 ?_
  exact jr_end (fun h => hr 0 h _ _ dX9_shadeOfBelow_13)
set_option maxRecDepth 100000 in
theorem c_Ru_shadeOfBelow (l : Launch) {k0 : Nat} (hk0 : isD k0) {k1 : Nat} (hk1 : isD k1) (v2 : Int32) (v3 : Int32) (s : St) {q : Int32} (h : f_Ru_shadeOfBelow k0 k1 v2 v3 s = some q) : CT SC l yX9_shadeOfBelow cX9_shadeOfBelow 8 (some .int) 1 21 (fun a => [.ref (a k0), .ref (a k1), .int v2, .int v3]) s s (fun _ => some (.int q)) :=
  ct_I okX_C (by decide) (fun _ => Nat.le_of_ble_eq_true rfl) (fun G hl hR hL C hr => t_Ru_shadeOfBelow G hR hL C (Acc := fun v => v = q) hk0 hk1 v2 v3 s (fun v hv => by rw [hv]; exact hr) ⟨_, h, rfl⟩)
noncomputable def f_Ru_shade_J180 (v4 : Int32) (s : St) : Option Int32 :=
  some (f_Ru_left v4)
set_option maxHeartbeats 4000000 in
set_option maxRecDepth 100000 in
theorem t_Ru_shade_J180 (G : GG) (hR : gR G = rmx 2 48) (hL : gL G = 5) (C : Cx SC G cX9_shade RX9) {Acc : Int32 → Prop}  (v4 : Int32) (s : St) (hr : ∀ v : Int32, Acc v → RtI SC G cX9_shade v s) : JJ SC G Acc (f_Ru_shade_J180 v4 s) 180 [(4, .int v4)] [] s := by
  unfold f_Ru_shade_J180
  refine jr_iload C 0 rfl dX9_shade_180 ?_
  refine jr_callSI C km_X9_30 (rk hR rfl) (c_Ru_left (gl G) v4 s) rfl rfl rfl (Nat.le_of_ble_eq_true rfl) dX9_shade_182 ?_
  exact jr_end (fun h => hr (f_Ru_left v4) h _ _ dX9_shade_185)
noncomputable def f_Ru_shade_J186 (v4 : Int32) (s : St) : Option Int32 :=
  some (f_Ru_any v4)
set_option maxHeartbeats 4000000 in
set_option maxRecDepth 100000 in
theorem t_Ru_shade_J186 (G : GG) (hR : gR G = rmx 2 48) (hL : gL G = 5) (C : Cx SC G cX9_shade RX9) {Acc : Int32 → Prop}  (v4 : Int32) (s : St) (hr : ∀ v : Int32, Acc v → RtI SC G cX9_shade v s) : JJ SC G Acc (f_Ru_shade_J186 v4 s) 186 [(4, .int v4)] [] s := by
  unfold f_Ru_shade_J186
  refine jr_iload C 0 rfl dX9_shade_186 ?_
  refine jr_callSI C km_X9_38 (rk hR rfl) (c_Ru_any (gl G) v4 s) rfl rfl rfl (Nat.le_of_ble_eq_true rfl) dX9_shade_188 ?_
  exact jr_end (fun h => hr (f_Ru_any v4) h _ _ dX9_shade_191)
noncomputable def f_Ru_shade_J245 (v0 : Int32) (o1 : Nat) (o2 : Nat) (s : St) : Option Int32 :=
  if ((s.1 o2 1) &&& 31) = 0 then
  some (f_Ru_moved v0 (s.1 o1 1) (s.1 o2 0))
  else
  some (f_Ru_any 1)
set_option maxHeartbeats 4000000 in
set_option maxRecDepth 100000 in
theorem t_Ru_shade_J245 (G : GG) (hR : gR G = rmx 2 48) (hL : gL G = 5) (C : Cx SC G cX9_shade RX9) {Acc : Int32 → Prop} {o1 : Nat} (ho1 : isD o1) {o2 : Nat} (ho2 : isD o2) (v0 : Int32) (s : St) (hr : ∀ v : Int32, Acc v → RtI SC G cX9_shade v s) : JJ SC G Acc (f_Ru_shade_J245 v0 o1 o2 s) 245 [(0, .int v0), (1, .ref (ad G o1)), (2, .ref (ad G o2))] [] s := by
  unfold f_Ru_shade_J245
  refine jr_aload_n C 2 rfl rfl dX9_shade_245 ?_
  refine jr_getI C FX_1 1 (oD ho2).1 (oD ho2).2 ff_1_1.1 ff_1_1.2 fl_X9_17 dX9_shade_246 ?_
  refine jr_bipush C bp_31 dX9_shade_249 ?_
  refine jr_iand C dX9_shade_251 ?_
  refine jr_if_eq C (tgt := 262) dX9_shade_252 (by decide) (fun h36 => ?_) (fun h36 => ?_)
  · refine jo_pos h36 ?_
    refine jr_iload_n C 0 rfl rfl dX9_shade_262 ?_
    refine jr_aload_n C 1 rfl rfl dX9_shade_263 ?_
    refine jr_getI C FX_1 1 (oD ho1).1 (oD ho1).2 ff_1_1.1 ff_1_1.2 fl_X9_17 dX9_shade_264 ?_
    refine jr_aload_n C 2 rfl rfl dX9_shade_267 ?_
    refine jr_getI C FX_1 0 (oD ho2).1 (oD ho2).2 ff_1_0.1 ff_1_0.2 fl_X9_41 dX9_shade_268 ?_
    refine jr_callSI C km_X9_13 (rk hR rfl) (c_Ru_moved (gl G) v0 (s.1 o1 1) (s.1 o2 0) s) rfl rfl rfl (Nat.le_of_ble_eq_true rfl) dX9_shade_271 ?_
    exact jr_end (fun h => hr (f_Ru_moved v0 (s.1 o1 1) (s.1 o2 0)) h _ _ dX9_shade_274)
  refine jo_neg h36 ?_
  refine jr_iconst C ic_1 dX9_shade_255 ?_
  refine jr_callSI C km_X9_38 (rk hR rfl) (c_Ru_any (gl G) 1 s) rfl rfl rfl (Nat.le_of_ble_eq_true rfl) dX9_shade_256 ?_
  refine jr_goto C (tgt := 274) dX9_shade_259 (by decide) ?_
  exact jr_end (fun h => hr (f_Ru_any 1) h _ _ dX9_shade_274)
noncomputable def f_Ru_shade_J275 (o1 : Nat) (o2 : Nat) (v3 : Int32) (s : St) : Option Int32 :=
  (f_Ru_shadeOfEqual o1 o2 v3 s).bind fun q40 =>
  some q40
set_option maxHeartbeats 4000000 in
set_option maxRecDepth 100000 in
theorem t_Ru_shade_J275 (G : GG) (hR : gR G = rmx 2 48) (hL : gL G = 5) (C : Cx SC G cX9_shade RX9) {Acc : Int32 → Prop} {o1 : Nat} (ho1 : isD o1) {o2 : Nat} (ho2 : isD o2) (v3 : Int32) (s : St) (hr : ∀ v : Int32, Acc v → RtI SC G cX9_shade v s) : JJ SC G Acc (f_Ru_shade_J275 o1 o2 v3 s) 275 [(1, .ref (ad G o1)), (2, .ref (ad G o2)), (3, .int v3)] [] s := by
  unfold f_Ru_shade_J275
  refine jr_aload_n C 0 rfl rfl dX9_shade_275 ?_
  refine jr_aload_n C 1 rfl rfl dX9_shade_276 ?_
  refine jr_iload_n C 2 rfl rfl dX9_shade_277 ?_
  refine jr_bind (fun q40 e41 => ?_)
  refine jr_callSI C km_X9_44 (rk hR rfl) (c_Ru_shadeOfEqual (gl G) ho1 ho2 v3 s e41) rfl rfl rfl (Nat.le_of_ble_eq_true rfl) dX9_shade_278 ?_
  exact jr_end (fun h => hr q40 h _ _ dX9_shade_281)
noncomputable def f_Ru_shade (k1 : Nat) (k2 : Nat) (v0 : Int32) (v3 : Int32) (s : St) : Option Int32 :=
  lt ((s.1 k1 1) ||| (s.1 k2 1)) fun x1 =>
  if v0 = 4 then
  (if v3 = 0 then
  some (f_Ru_left x1)
  else
  (f_Ru_least k1 s).bind fun q4 =>
  (f_Ru_least k2 s).bind fun q6 =>
  (f_Ru_most k1 s).bind fun q8 =>
  (f_Ru_most k2 s).bind fun q10 =>
  some (((q4 + q6) ^^^ (q8 + q10)) ||| x1))
  else if v0 = 5 then
  (if v3 = 0 then
  some (f_Ru_left x1)
  else
  (f_Ru_least k1 s).bind fun q14 =>
  (f_Ru_most k2 s).bind fun q16 =>
  (f_Ru_most k1 s).bind fun q18 =>
  (f_Ru_least k2 s).bind fun q20 =>
  some (((q14 - q16) ^^^ (q18 - q20)) ||| x1))
  else if v0 = 6 then
  (if v3 = 0 then
  f_Ru_shade_J180 x1 s
  else
  (f_Ru_isSetZero k1 s).bind fun q24 =>
  if q24 = 0 then
  ((f_Ru_isSetZero k2 s).bind fun q27 =>
  if q27 = 0 then
  f_Ru_shade_J180 x1 s
  else
  some 0)
  else
  some 0)
  else if v0 = 7 then
  f_Ru_shade_J186 x1 s
  else if v0 = 8 then
  f_Ru_shade_J186 x1 s
  else if v0 = 9 then
  some ((x1 &&& ((s.1 k1 0) ||| (s.1 k1 1))) &&& ((s.1 k2 0) ||| (s.1 k2 1)))
  else if v0 = 10 then
  some ((x1 &&& (((s.1 k1 0) ^^^ (-1)) ||| (s.1 k1 1))) &&& (((s.1 k2 0) ^^^ (-1)) ||| (s.1 k2 1)))
  else if v0 = 11 then
  some x1
  else if v0 = 12 then
  f_Ru_shade_J245 v0 k1 k2 s
  else if v0 = 13 then
  f_Ru_shade_J245 v0 k1 k2 s
  else if v0 = 14 then
  f_Ru_shade_J245 v0 k1 k2 s
  else if v0 = 15 then
  f_Ru_shade_J275 k1 k2 v3 s
  else if v0 = 16 then
  f_Ru_shade_J275 k1 k2 v3 s
  else if v0 = 17 then
  ((f_Ru_shadeOfBelow k1 k2 (-2147483648) v3 s).bind fun q44 =>
  some q44)
  else if v0 = 18 then
  ((f_Ru_shadeOfBelow k1 k2 0 v3 s).bind fun q47 =>
  some q47)
  else some (f_Ru_moved v0 (s.1 k1 1) 0)
set_option maxHeartbeats 4000000 in
set_option maxRecDepth 100000 in
theorem t_Ru_shade (G : GG) (hR : gR G = rmx 2 48) (hL : gL G = 5) (C : Cx SC G cX9_shade RX9) {Acc : Int32 → Prop} {k1 : Nat} (hk1 : isD k1) {k2 : Nat} (hk2 : isD k2) (v0 : Int32) (v3 : Int32) (s : St) (hr : ∀ v : Int32, Acc v → RtI SC G cX9_shade v s) : JJ SC G Acc (f_Ru_shade k1 k2 v0 v3 s) 0 [(0, .int v0), (1, .ref (ad G k1)), (2, .ref (ad G k2)), (3, .int v3)] [] s := by
  unfold f_Ru_shade
  refine jr_aload_n C 1 rfl rfl dX9_shade_0 ?_
  refine jr_getI C FX_1 1 (oD hk1).1 (oD hk1).2 ff_1_1.1 ff_1_1.2 fl_X9_17 dX9_shade_1 ?_
  refine jr_aload_n C 2 rfl rfl dX9_shade_4 ?_
  refine jr_getI C FX_1 1 (oD hk2).1 (oD hk2).2 ff_1_1.1 ff_1_1.2 fl_X9_17 dX9_shade_5 ?_
  refine jr_ior C dX9_shade_8 ?_
  refine jr_ltI (fun x1 => ?_)
  refine jr_istore C (lv' := [(4, .int x1), (0, .int v0), (1, .ref (ad G k1)), (2, .ref (ad G k2)), (3, .int v3)]) (ltL hL rfl) rfl dX9_shade_9 ?_
  refine jr_iload_n C 1 rfl rfl dX9_shade_11 ?_
  refine jo_cases (fun h2 => ?_) (fun h2 => ?_)
  · refine jr_tabIn C dX9_shade_12 h2 (by decide) (by decide) rfl (tgt := 88) (by decide) ?_
    refine jr_iload_n C 4 rfl rfl dX9_shade_88 ?_
    refine jr_if_eq C (tgt := 117) dX9_shade_89 (by decide) (fun h3 => ?_) (fun h3 => ?_)
    · refine jo_pos h3 ?_
      refine jr_iload C 0 rfl dX9_shade_117 ?_
      refine jr_callSI C km_X9_30 (rk hR rfl) (c_Ru_left (gl G) x1 s) rfl rfl rfl (Nat.le_of_ble_eq_true rfl) dX9_shade_119 ?_
      exact jr_end (fun h => hr (f_Ru_left x1) h _ _ dX9_shade_122)
    refine jo_neg h3 ?_
    refine jr_aload_n C 2 rfl rfl dX9_shade_92 ?_
    refine jr_bind (fun q4 e5 => ?_)
    refine jr_callSI C km_X9_23 (rk hR rfl) (c_Ru_least (gl G) hk1 s e5) rfl rfl rfl (Nat.le_of_ble_eq_true rfl) dX9_shade_93 ?_
    refine jr_aload_n C 3 rfl rfl dX9_shade_96 ?_
    refine jr_bind (fun q6 e7 => ?_)
    refine jr_callSI C km_X9_23 (rk hR rfl) (c_Ru_least (gl G) hk2 s e7) rfl rfl rfl (Nat.le_of_ble_eq_true rfl) dX9_shade_97 ?_
    refine jr_iadd C dX9_shade_100 ?_
    refine jr_aload_n C 2 rfl rfl dX9_shade_101 ?_
    refine jr_bind (fun q8 e9 => ?_)
    refine jr_callSI C km_X9_27 (rk hR rfl) (c_Ru_most (gl G) hk1 s e9) rfl rfl rfl (Nat.le_of_ble_eq_true rfl) dX9_shade_102 ?_
    refine jr_aload_n C 3 rfl rfl dX9_shade_105 ?_
    refine jr_bind (fun q10 e11 => ?_)
    refine jr_callSI C km_X9_27 (rk hR rfl) (c_Ru_most (gl G) hk2 s e11) rfl rfl rfl (Nat.le_of_ble_eq_true rfl) dX9_shade_106 ?_
    refine jr_iadd C dX9_shade_109 ?_
    refine jr_ixor C dX9_shade_110 ?_
    refine jr_iload C 0 rfl dX9_shade_111 ?_
    refine jr_ior C dX9_shade_113 ?_
    refine jr_goto C (tgt := 122) dX9_shade_114 (by decide) ?_
    exact jr_end (fun h => hr (((q4 + q6) ^^^ (q8 + q10)) ||| x1) h _ _ dX9_shade_122)
  refine jo_cases (fun h12 => ?_) (fun h12 => ?_)
  · refine jr_tabIn C dX9_shade_12 h12 (by decide) (by decide) rfl (tgt := 123) (by decide) ?_
    refine jr_iload_n C 4 rfl rfl dX9_shade_123 ?_
    refine jr_if_eq C (tgt := 152) dX9_shade_124 (by decide) (fun h13 => ?_) (fun h13 => ?_)
    · refine jo_pos h13 ?_
      refine jr_iload C 0 rfl dX9_shade_152 ?_
      refine jr_callSI C km_X9_30 (rk hR rfl) (c_Ru_left (gl G) x1 s) rfl rfl rfl (Nat.le_of_ble_eq_true rfl) dX9_shade_154 ?_
      exact jr_end (fun h => hr (f_Ru_left x1) h _ _ dX9_shade_157)
    refine jo_neg h13 ?_
    refine jr_aload_n C 2 rfl rfl dX9_shade_127 ?_
    refine jr_bind (fun q14 e15 => ?_)
    refine jr_callSI C km_X9_23 (rk hR rfl) (c_Ru_least (gl G) hk1 s e15) rfl rfl rfl (Nat.le_of_ble_eq_true rfl) dX9_shade_128 ?_
    refine jr_aload_n C 3 rfl rfl dX9_shade_131 ?_
    refine jr_bind (fun q16 e17 => ?_)
    refine jr_callSI C km_X9_27 (rk hR rfl) (c_Ru_most (gl G) hk2 s e17) rfl rfl rfl (Nat.le_of_ble_eq_true rfl) dX9_shade_132 ?_
    refine jr_isub C dX9_shade_135 ?_
    refine jr_aload_n C 2 rfl rfl dX9_shade_136 ?_
    refine jr_bind (fun q18 e19 => ?_)
    refine jr_callSI C km_X9_27 (rk hR rfl) (c_Ru_most (gl G) hk1 s e19) rfl rfl rfl (Nat.le_of_ble_eq_true rfl) dX9_shade_137 ?_
    refine jr_aload_n C 3 rfl rfl dX9_shade_140 ?_
    refine jr_bind (fun q20 e21 => ?_)
    refine jr_callSI C km_X9_23 (rk hR rfl) (c_Ru_least (gl G) hk2 s e21) rfl rfl rfl (Nat.le_of_ble_eq_true rfl) dX9_shade_141 ?_
    refine jr_isub C dX9_shade_144 ?_
    refine jr_ixor C dX9_shade_145 ?_
    refine jr_iload C 0 rfl dX9_shade_146 ?_
    refine jr_ior C dX9_shade_148 ?_
    refine jr_goto C (tgt := 157) dX9_shade_149 (by decide) ?_
    exact jr_end (fun h => hr (((q14 - q16) ^^^ (q18 - q20)) ||| x1) h _ _ dX9_shade_157)
  refine jo_cases (fun h22 => ?_) (fun h22 => ?_)
  · refine jr_tabIn C dX9_shade_12 h22 (by decide) (by decide) rfl (tgt := 158) (by decide) ?_
    refine jr_iload_n C 4 rfl rfl dX9_shade_158 ?_
    refine jr_if_eq C (tgt := 180) dX9_shade_159 (by decide) (fun h23 => ?_) (fun h23 => ?_)
    · refine jo_pos h23 ?_
      refine jr_lv [0] rfl ?_
      exact t_Ru_shade_J180 G hR hL C  x1 s hr
    refine jo_neg h23 ?_
    refine jr_aload_n C 2 rfl rfl dX9_shade_162 ?_
    refine jr_bind (fun q24 e25 => ?_)
    refine jr_callSI C km_X9_34 (rk hR rfl) (c_Ru_isSetZero (gl G) hk1 s e25) rfl rfl rfl (Nat.le_of_ble_eq_true rfl) dX9_shade_163 ?_
    refine jr_if_ne C (tgt := 176) dX9_shade_166 (by decide) (fun h26 => ?_) (fun h26 => ?_)
    · refine jo_neg h26 ?_
      refine jr_iconst C ic_0 dX9_shade_176 ?_
      refine jr_goto C (tgt := 185) dX9_shade_177 (by decide) ?_
      exact jr_end (fun h => hr 0 h _ _ dX9_shade_185)
    refine jo_pos h26 ?_
    refine jr_aload_n C 3 rfl rfl dX9_shade_169 ?_
    refine jr_bind (fun q27 e28 => ?_)
    refine jr_callSI C km_X9_34 (rk hR rfl) (c_Ru_isSetZero (gl G) hk2 s e28) rfl rfl rfl (Nat.le_of_ble_eq_true rfl) dX9_shade_170 ?_
    refine jr_if_eq C (tgt := 180) dX9_shade_173 (by decide) (fun h29 => ?_) (fun h29 => ?_)
    · refine jo_pos h29 ?_
      refine jr_lv [0] rfl ?_
      exact t_Ru_shade_J180 G hR hL C  x1 s hr
    refine jo_neg h29 ?_
    refine jr_iconst C ic_0 dX9_shade_176 ?_
    refine jr_goto C (tgt := 185) dX9_shade_177 (by decide) ?_
    exact jr_end (fun h => hr 0 h _ _ dX9_shade_185)
  refine jo_cases (fun h30 => ?_) (fun h30 => ?_)
  · refine jr_tabIn C dX9_shade_12 h30 (by decide) (by decide) rfl (tgt := 186) (by decide) ?_
    refine jr_lv [0] rfl ?_
    exact t_Ru_shade_J186 G hR hL C  x1 s hr
  refine jo_cases (fun h31 => ?_) (fun h31 => ?_)
  · refine jr_tabIn C dX9_shade_12 h31 (by decide) (by decide) rfl (tgt := 186) (by decide) ?_
    refine jr_lv [0] rfl ?_
    exact t_Ru_shade_J186 G hR hL C  x1 s hr
  refine jo_cases (fun h32 => ?_) (fun h32 => ?_)
  · refine jr_tabIn C dX9_shade_12 h32 (by decide) (by decide) rfl (tgt := 192) (by decide) ?_
    refine jr_iload C 0 rfl dX9_shade_192 ?_
    refine jr_aload_n C 2 rfl rfl dX9_shade_194 ?_
    refine jr_getI C FX_1 0 (oD hk1).1 (oD hk1).2 ff_1_0.1 ff_1_0.2 fl_X9_41 dX9_shade_195 ?_
    refine jr_aload_n C 2 rfl rfl dX9_shade_198 ?_
    refine jr_getI C FX_1 1 (oD hk1).1 (oD hk1).2 ff_1_1.1 ff_1_1.2 fl_X9_17 dX9_shade_199 ?_
    refine jr_ior C dX9_shade_202 ?_
    refine jr_iand C dX9_shade_203 ?_
    refine jr_aload_n C 3 rfl rfl dX9_shade_204 ?_
    refine jr_getI C FX_1 0 (oD hk2).1 (oD hk2).2 ff_1_0.1 ff_1_0.2 fl_X9_41 dX9_shade_205 ?_
    refine jr_aload_n C 3 rfl rfl dX9_shade_208 ?_
    refine jr_getI C FX_1 1 (oD hk2).1 (oD hk2).2 ff_1_1.1 ff_1_1.2 fl_X9_17 dX9_shade_209 ?_
    refine jr_ior C dX9_shade_212 ?_
    refine jr_iand C dX9_shade_213 ?_
    exact jr_end (fun h => hr ((x1 &&& ((s.1 k1 0) ||| (s.1 k1 1))) &&& ((s.1 k2 0) ||| (s.1 k2 1))) h _ _ dX9_shade_214)
  refine jo_cases (fun h33 => ?_) (fun h33 => ?_)
  · refine jr_tabIn C dX9_shade_12 h33 (by decide) (by decide) rfl (tgt := 215) (by decide) ?_
    refine jr_iload C 0 rfl dX9_shade_215 ?_
    refine jr_aload_n C 2 rfl rfl dX9_shade_217 ?_
    refine jr_getI C FX_1 0 (oD hk1).1 (oD hk1).2 ff_1_0.1 ff_1_0.2 fl_X9_41 dX9_shade_218 ?_
    refine jr_iconst C ic_m1 dX9_shade_221 ?_
    refine jr_ixor C dX9_shade_222 ?_
    refine jr_aload_n C 2 rfl rfl dX9_shade_223 ?_
    refine jr_getI C FX_1 1 (oD hk1).1 (oD hk1).2 ff_1_1.1 ff_1_1.2 fl_X9_17 dX9_shade_224 ?_
    refine jr_ior C dX9_shade_227 ?_
    refine jr_iand C dX9_shade_228 ?_
    refine jr_aload_n C 3 rfl rfl dX9_shade_229 ?_
    refine jr_getI C FX_1 0 (oD hk2).1 (oD hk2).2 ff_1_0.1 ff_1_0.2 fl_X9_41 dX9_shade_230 ?_
    refine jr_iconst C ic_m1 dX9_shade_233 ?_
    refine jr_ixor C dX9_shade_234 ?_
    refine jr_aload_n C 3 rfl rfl dX9_shade_235 ?_
    refine jr_getI C FX_1 1 (oD hk2).1 (oD hk2).2 ff_1_1.1 ff_1_1.2 fl_X9_17 dX9_shade_236 ?_
    refine jr_ior C dX9_shade_239 ?_
    refine jr_iand C dX9_shade_240 ?_
    exact jr_end (fun h => hr ((x1 &&& (((s.1 k1 0) ^^^ (-1)) ||| (s.1 k1 1))) &&& (((s.1 k2 0) ^^^ (-1)) ||| (s.1 k2 1))) h _ _ dX9_shade_241)
  refine jo_cases (fun h34 => ?_) (fun h34 => ?_)
  · refine jr_tabIn C dX9_shade_12 h34 (by decide) (by decide) rfl (tgt := 242) (by decide) ?_
    refine jr_iload C 0 rfl dX9_shade_242 ?_
    exact jr_end (fun h => hr x1 h _ _ dX9_shade_244)
  refine jo_cases (fun h35 => ?_) (fun h35 => ?_)
  · refine jr_tabIn C dX9_shade_12 h35 (by decide) (by decide) rfl (tgt := 245) (by decide) ?_
    refine jr_lv [1, 2, 3] rfl ?_
    exact t_Ru_shade_J245 G hR hL C hk1 hk2 v0 s hr
  refine jo_cases (fun h37 => ?_) (fun h37 => ?_)
  · refine jr_tabIn C dX9_shade_12 h37 (by decide) (by decide) rfl (tgt := 245) (by decide) ?_
    refine jr_lv [1, 2, 3] rfl ?_
    exact t_Ru_shade_J245 G hR hL C hk1 hk2 v0 s hr
  refine jo_cases (fun h38 => ?_) (fun h38 => ?_)
  · refine jr_tabIn C dX9_shade_12 h38 (by decide) (by decide) rfl (tgt := 245) (by decide) ?_
    refine jr_lv [1, 2, 3] rfl ?_
    exact t_Ru_shade_J245 G hR hL C hk1 hk2 v0 s hr
  refine jo_cases (fun h39 => ?_) (fun h39 => ?_)
  · refine jr_tabIn C dX9_shade_12 h39 (by decide) (by decide) rfl (tgt := 275) (by decide) ?_
    refine jr_lv [2, 3, 4] rfl ?_
    exact t_Ru_shade_J275 G hR hL C hk1 hk2 v3 s hr
  refine jo_cases (fun h42 => ?_) (fun h42 => ?_)
  · refine jr_tabIn C dX9_shade_12 h42 (by decide) (by decide) rfl (tgt := 275) (by decide) ?_
    refine jr_lv [2, 3, 4] rfl ?_
    exact t_Ru_shade_J275 G hR hL C hk1 hk2 v3 s hr
  refine jo_cases (fun h43 => ?_) (fun h43 => ?_)
  · refine jr_tabIn C dX9_shade_12 h43 (by decide) (by decide) rfl (tgt := 282) (by decide) ?_
    refine jr_aload_n C 2 rfl rfl dX9_shade_282 ?_
    refine jr_aload_n C 3 rfl rfl dX9_shade_283 ?_
    refine jr_ldc C kc_X9_48 dX9_shade_284 ?_
    refine jr_iload_n C 4 rfl rfl dX9_shade_286 ?_
    refine jr_bind (fun q44 e45 => ?_)
    refine jr_callSI C km_X9_49 (rk hR rfl) (c_Ru_shadeOfBelow (gl G) hk1 hk2 (-2147483648) v3 s e45) rfl rfl rfl (Nat.le_of_ble_eq_true rfl) dX9_shade_287 ?_
    exact jr_end (fun h => hr q44 h _ _ dX9_shade_290)
  refine jo_cases (fun h46 => ?_) (fun h46 => ?_)
  · refine jr_tabIn C dX9_shade_12 h46 (by decide) (by decide) rfl (tgt := 291) (by decide) ?_
    refine jr_aload_n C 2 rfl rfl dX9_shade_291 ?_
    refine jr_aload_n C 3 rfl rfl dX9_shade_292 ?_
    refine jr_iconst C ic_0 dX9_shade_293 ?_
    refine jr_iload_n C 4 rfl rfl dX9_shade_294 ?_
    refine jr_bind (fun q47 e48 => ?_)
    refine jr_callSI C km_X9_49 (rk hR rfl) (c_Ru_shadeOfBelow (gl G) hk1 hk2 0 v3 s e48) rfl rfl rfl (Nat.le_of_ble_eq_true rfl) dX9_shade_295 ?_
    exact jr_end (fun h => hr q47 h _ _ dX9_shade_298)
  refine jr_tabOut C dX9_shade_12 (by have e0 := lv_neT h2 (a := 4) (by decide); have e1 := lv_neT h12 (a := 5) (by decide); have e2 := lv_neT h22 (a := 6) (by decide); have e3 := lv_neT h30 (a := 7) (by decide); have e4 := lv_neT h31 (a := 8) (by decide); have e5 := lv_neT h32 (a := 9) (by decide); have e6 := lv_neT h33 (a := 10) (by decide); have e7 := lv_neT h34 (a := 11) (by decide); have e8 := lv_neT h35 (a := 12) (by decide); have e9 := lv_neT h37 (a := 13) (by decide); have e10 := lv_neT h38 (a := 14) (by decide); have e11 := lv_neT h39 (a := 15) (by decide); have e12 := lv_neT h42 (a := 16) (by decide); have e13 := lv_neT h43 (a := 17) (by decide); have e14 := lv_neT h46 (a := 18) (by decide); omega) (tgt := 299) (by decide) ?_
  refine jr_iload_n C 1 rfl rfl dX9_shade_299 ?_
  refine jr_aload_n C 2 rfl rfl dX9_shade_300 ?_
  refine jr_getI C FX_1 1 (oD hk1).1 (oD hk1).2 ff_1_1.1 ff_1_1.2 fl_X9_17 dX9_shade_301 ?_
  refine jr_iconst C ic_0 dX9_shade_304 ?_
  refine jr_callSI C km_X9_13 (rk hR rfl) (c_Ru_moved (gl G) v0 (s.1 k1 1) 0 s) rfl rfl rfl (Nat.le_of_ble_eq_true rfl) dX9_shade_305 ?_
  exact jr_end (fun h => hr (f_Ru_moved v0 (s.1 k1 1) 0) h _ _ dX9_shade_308)
set_option maxRecDepth 100000 in
theorem c_Ru_shade (l : Launch) {k1 : Nat} (hk1 : isD k1) {k2 : Nat} (hk2 : isD k2) (v0 : Int32) (v3 : Int32) (s : St) {q : Int32} (h : f_Ru_shade k1 k2 v0 v3 s = some q) : CT SC l yX9_shade cX9_shade 5 (some .int) 2 48 (fun a => [.int v0, .ref (a k1), .ref (a k2), .int v3]) s s (fun _ => some (.int q)) :=
  ct_I okX_C (by decide) (fun _ => Nat.le_of_ble_eq_true rfl) (fun G hl hR hL C hr => t_Ru_shade G hR hL C (Acc := fun v => v = q) hk1 hk2 v0 v3 s (fun v hv => by rw [hv]; exact hr) ⟨_, h, rfl⟩)
noncomputable def f_Ru_value_J183 (v0 : Int32) (v1 : Int32) (v2 : Int32) : Int32 :=
  (f_Ru_moved v0 v1 v2)
set_option maxHeartbeats 4000000 in
set_option maxRecDepth 100000 in
theorem t_Ru_value_J183 (G : GG) (hR : gR G = rmx 1 22) (hL : gL G = 3) (C : Cx SC G cX9_value RX9) {Acc : Int32 → Prop}  (v0 : Int32) (v1 : Int32) (v2 : Int32) (s : St) (hr : ∀ v : Int32, Acc v → RtI SC G cX9_value v s) : JJ SC G Acc (some (f_Ru_value_J183 v0 v1 v2)) 183 [(0, .int v0), (1, .int v1), (2, .int v2)] [] s := by
  unfold f_Ru_value_J183
  refine jr_iload_n C 0 rfl rfl dX9_value_183 ?_
  refine jr_iload_n C 1 rfl rfl dX9_value_184 ?_
  refine jr_iload_n C 2 rfl rfl dX9_value_185 ?_
  refine jr_callSI C km_X9_13 (rk hR rfl) (c_Ru_moved (gl G) v0 v1 v2 s) rfl rfl rfl (Nat.le_of_ble_eq_true rfl) dX9_value_186 ?_
  exact jr_end (fun h => hr (f_Ru_moved v0 v1 v2) h _ _ dX9_value_189)
noncomputable def f_Ru_value (v0 : Int32) (v1 : Int32) (v2 : Int32) : Int32 :=
  if v0 = 2 then
  (v1 ^^^ (-1))
  else if v0 = 3 then
  f_Ru_value_J183 v0 v1 v2
  else if v0 = 4 then
  (v1 + v2)
  else if v0 = 5 then
  (v1 - v2)
  else if v0 = 6 then
  (v1 * v2)
  else if v0 = 7 then
  (if v2 = 0 then
  0
  else
  (v1 / v2))
  else if v0 = 8 then
  (if v2 = 0 then
  0
  else
  (v1 - v1 / v2 * v2))
  else if v0 = 9 then
  (v1 &&& v2)
  else if v0 = 10 then
  (v1 ||| v2)
  else if v0 = 11 then
  (v1 ^^^ v2)
  else if v0 = 12 then
  f_Ru_value_J183 v0 v1 v2
  else if v0 = 13 then
  f_Ru_value_J183 v0 v1 v2
  else if v0 = 14 then
  f_Ru_value_J183 v0 v1 v2
  else if v0 = 15 then
  (if v1 = v2 then
  1
  else
  0)
  else if v0 = 16 then
  (if v1 = v2 then
  0
  else
  1)
  else if v0 = 17 then
  (if v2 ≤ v1 then
  0
  else
  1)
  else if v0 = 18 then
  (if (f_Ru_isBelow v1 v2) = 0 then
  0
  else
  1)
  else f_Ru_value_J183 v0 v1 v2
set_option maxHeartbeats 4000000 in
set_option maxRecDepth 100000 in
theorem t_Ru_value (G : GG) (hR : gR G = rmx 1 22) (hL : gL G = 3) (C : Cx SC G cX9_value RX9) {Acc : Int32 → Prop}  (v0 : Int32) (v1 : Int32) (v2 : Int32) (s : St) (hr : ∀ v : Int32, Acc v → RtI SC G cX9_value v s) : JJ SC G Acc (some (f_Ru_value v0 v1 v2)) 0 [(0, .int v0), (1, .int v1), (2, .int v2)] [] s := by
  unfold f_Ru_value
  refine jr_iload_n C 0 rfl rfl dX9_value_0 ?_
  refine jo_casesP (fun h1 => ?_) (fun h1 => ?_)
  · refine jr_tabIn C dX9_value_1 h1 (by decide) (by decide) rfl (tgt := 84) (by decide) ?_
    refine jr_iload_n C 1 rfl rfl dX9_value_84 ?_
    refine jr_iconst C ic_m1 dX9_value_85 ?_
    refine jr_ixor C dX9_value_86 ?_
    exact jr_end (fun h => hr (v1 ^^^ (-1)) h _ _ dX9_value_87)
  refine jo_casesP (fun h2 => ?_) (fun h2 => ?_)
  · refine jr_tabIn C dX9_value_1 h2 (by decide) (by decide) rfl (tgt := 183) (by decide) ?_
    exact t_Ru_value_J183 G hR hL C  v0 v1 v2 s hr
  refine jo_casesP (fun h3 => ?_) (fun h3 => ?_)
  · refine jr_tabIn C dX9_value_1 h3 (by decide) (by decide) rfl (tgt := 88) (by decide) ?_
    refine jr_iload_n C 1 rfl rfl dX9_value_88 ?_
    refine jr_iload_n C 2 rfl rfl dX9_value_89 ?_
    refine jr_iadd C dX9_value_90 ?_
    exact jr_end (fun h => hr (v1 + v2) h _ _ dX9_value_91)
  refine jo_casesP (fun h4 => ?_) (fun h4 => ?_)
  · refine jr_tabIn C dX9_value_1 h4 (by decide) (by decide) rfl (tgt := 92) (by decide) ?_
    refine jr_iload_n C 1 rfl rfl dX9_value_92 ?_
    refine jr_iload_n C 2 rfl rfl dX9_value_93 ?_
    refine jr_isub C dX9_value_94 ?_
    exact jr_end (fun h => hr (v1 - v2) h _ _ dX9_value_95)
  refine jo_casesP (fun h5 => ?_) (fun h5 => ?_)
  · refine jr_tabIn C dX9_value_1 h5 (by decide) (by decide) rfl (tgt := 96) (by decide) ?_
    refine jr_iload_n C 1 rfl rfl dX9_value_96 ?_
    refine jr_iload_n C 2 rfl rfl dX9_value_97 ?_
    refine jr_imul C dX9_value_98 ?_
    exact jr_end (fun h => hr (v1 * v2) h _ _ dX9_value_99)
  refine jo_casesP (fun h6 => ?_) (fun h6 => ?_)
  · refine jr_tabIn C dX9_value_1 h6 (by decide) (by decide) rfl (tgt := 100) (by decide) ?_
    refine jr_iload_n C 2 rfl rfl dX9_value_100 ?_
    refine jr_if_ne C (tgt := 108) dX9_value_101 (by decide) (fun h7 => ?_) (fun h7 => ?_)
    · refine jo_negP h7 ?_
      refine jr_iload_n C 1 rfl rfl dX9_value_108 ?_
      refine jr_iload_n C 2 rfl rfl dX9_value_109 ?_
      refine jr_idiv C (by assumption) dX9_value_110 ?_
      exact jr_end (fun h => hr (v1 / v2) h _ _ dX9_value_111)
    refine jo_posP h7 ?_
    refine jr_iconst C ic_0 dX9_value_104 ?_
    refine jr_goto C (tgt := 111) dX9_value_105 (by decide) ?_
    exact jr_end (fun h => hr 0 h _ _ dX9_value_111)
  refine jo_casesP (fun h8 => ?_) (fun h8 => ?_)
  · refine jr_tabIn C dX9_value_1 h8 (by decide) (by decide) rfl (tgt := 112) (by decide) ?_
    refine jr_iload_n C 2 rfl rfl dX9_value_112 ?_
    refine jr_if_ne C (tgt := 120) dX9_value_113 (by decide) (fun h9 => ?_) (fun h9 => ?_)
    · refine jo_negP h9 ?_
      refine jr_iload_n C 1 rfl rfl dX9_value_120 ?_
      refine jr_iload_n C 2 rfl rfl dX9_value_121 ?_
      refine jr_irem C (by assumption) dX9_value_122 ?_
      exact jr_end (fun h => hr (v1 - v1 / v2 * v2) h _ _ dX9_value_123)
    refine jo_posP h9 ?_
    refine jr_iconst C ic_0 dX9_value_116 ?_
    refine jr_goto C (tgt := 123) dX9_value_117 (by decide) ?_
    exact jr_end (fun h => hr 0 h _ _ dX9_value_123)
  refine jo_casesP (fun h10 => ?_) (fun h10 => ?_)
  · refine jr_tabIn C dX9_value_1 h10 (by decide) (by decide) rfl (tgt := 124) (by decide) ?_
    refine jr_iload_n C 1 rfl rfl dX9_value_124 ?_
    refine jr_iload_n C 2 rfl rfl dX9_value_125 ?_
    refine jr_iand C dX9_value_126 ?_
    exact jr_end (fun h => hr (v1 &&& v2) h _ _ dX9_value_127)
  refine jo_casesP (fun h11 => ?_) (fun h11 => ?_)
  · refine jr_tabIn C dX9_value_1 h11 (by decide) (by decide) rfl (tgt := 128) (by decide) ?_
    refine jr_iload_n C 1 rfl rfl dX9_value_128 ?_
    refine jr_iload_n C 2 rfl rfl dX9_value_129 ?_
    refine jr_ior C dX9_value_130 ?_
    exact jr_end (fun h => hr (v1 ||| v2) h _ _ dX9_value_131)
  refine jo_casesP (fun h12 => ?_) (fun h12 => ?_)
  · refine jr_tabIn C dX9_value_1 h12 (by decide) (by decide) rfl (tgt := 132) (by decide) ?_
    refine jr_iload_n C 1 rfl rfl dX9_value_132 ?_
    refine jr_iload_n C 2 rfl rfl dX9_value_133 ?_
    refine jr_ixor C dX9_value_134 ?_
    exact jr_end (fun h => hr (v1 ^^^ v2) h _ _ dX9_value_135)
  refine jo_casesP (fun h13 => ?_) (fun h13 => ?_)
  · refine jr_tabIn C dX9_value_1 h13 (by decide) (by decide) rfl (tgt := 183) (by decide) ?_
    exact t_Ru_value_J183 G hR hL C  v0 v1 v2 s hr
  refine jo_casesP (fun h14 => ?_) (fun h14 => ?_)
  · refine jr_tabIn C dX9_value_1 h14 (by decide) (by decide) rfl (tgt := 183) (by decide) ?_
    exact t_Ru_value_J183 G hR hL C  v0 v1 v2 s hr
  refine jo_casesP (fun h15 => ?_) (fun h15 => ?_)
  · refine jr_tabIn C dX9_value_1 h15 (by decide) (by decide) rfl (tgt := 183) (by decide) ?_
    exact t_Ru_value_J183 G hR hL C  v0 v1 v2 s hr
  refine jo_casesP (fun h16 => ?_) (fun h16 => ?_)
  · refine jr_tabIn C dX9_value_1 h16 (by decide) (by decide) rfl (tgt := 136) (by decide) ?_
    refine jr_iload_n C 1 rfl rfl dX9_value_136 ?_
    refine jr_iload_n C 2 rfl rfl dX9_value_137 ?_
    refine jr_icmp_ne C (tgt := 145) dX9_value_138 (by decide) (fun h17 => ?_) (fun h17 => ?_)
    · refine jo_negP h17 ?_
      refine jr_iconst C ic_0 dX9_value_145 ?_
      exact jr_end (fun h => hr 0 h _ _ dX9_value_146)
    refine jo_posP h17 ?_
    refine jr_iconst C ic_1 dX9_value_141 ?_
    refine jr_goto C (tgt := 146) dX9_value_142 (by decide) ?_
    exact jr_end (fun h => hr 1 h _ _ dX9_value_146)
  refine jo_casesP (fun h18 => ?_) (fun h18 => ?_)
  · refine jr_tabIn C dX9_value_1 h18 (by decide) (by decide) rfl (tgt := 147) (by decide) ?_
    refine jr_iload_n C 1 rfl rfl dX9_value_147 ?_
    refine jr_iload_n C 2 rfl rfl dX9_value_148 ?_
    refine jr_icmp_eq C (tgt := 156) dX9_value_149 (by decide) (fun h19 => ?_) (fun h19 => ?_)
    · refine jo_posP h19 ?_
      refine jr_iconst C ic_0 dX9_value_156 ?_
      exact jr_end (fun h => hr 0 h _ _ dX9_value_157)
    refine jo_negP h19 ?_
    refine jr_iconst C ic_1 dX9_value_152 ?_
    refine jr_goto C (tgt := 157) dX9_value_153 (by decide) ?_
    exact jr_end (fun h => hr 1 h _ _ dX9_value_157)
  refine jo_casesP (fun h20 => ?_) (fun h20 => ?_)
  · refine jr_tabIn C dX9_value_1 h20 (by decide) (by decide) rfl (tgt := 158) (by decide) ?_
    refine jr_iload_n C 1 rfl rfl dX9_value_158 ?_
    refine jr_iload_n C 2 rfl rfl dX9_value_159 ?_
    refine jr_icmp_ge C (tgt := 167) dX9_value_160 (by decide) (fun h21 => ?_) (fun h21 => ?_)
    · refine jo_posP h21 ?_
      refine jr_iconst C ic_0 dX9_value_167 ?_
      exact jr_end (fun h => hr 0 h _ _ dX9_value_168)
    refine jo_negP h21 ?_
    refine jr_iconst C ic_1 dX9_value_163 ?_
    refine jr_goto C (tgt := 168) dX9_value_164 (by decide) ?_
    exact jr_end (fun h => hr 1 h _ _ dX9_value_168)
  refine jo_casesP (fun h22 => ?_) (fun h22 => ?_)
  · refine jr_tabIn C dX9_value_1 h22 (by decide) (by decide) rfl (tgt := 169) (by decide) ?_
    refine jr_iload_n C 1 rfl rfl dX9_value_169 ?_
    refine jr_iload_n C 2 rfl rfl dX9_value_170 ?_
    refine jr_callSI C km_X9_7 (rk hR rfl) (c_Ru_isBelow (gl G) v1 v2 s) rfl rfl rfl (Nat.le_of_ble_eq_true rfl) dX9_value_171 ?_
    refine jr_if_eq C (tgt := 181) dX9_value_174 (by decide) (fun h23 => ?_) (fun h23 => ?_)
    · refine jo_posP h23 ?_
      refine jr_iconst C ic_0 dX9_value_181 ?_
      exact jr_end (fun h => hr 0 h _ _ dX9_value_182)
    refine jo_negP h23 ?_
    refine jr_iconst C ic_1 dX9_value_177 ?_
    refine jr_goto C (tgt := 182) dX9_value_178 (by decide) ?_
    exact jr_end (fun h => hr 1 h _ _ dX9_value_182)
  refine jr_tabOut C dX9_value_1 (by have e0 := lv_neT h1 (a := 2) (by decide); have e1 := lv_neT h2 (a := 3) (by decide); have e2 := lv_neT h3 (a := 4) (by decide); have e3 := lv_neT h4 (a := 5) (by decide); have e4 := lv_neT h5 (a := 6) (by decide); have e5 := lv_neT h6 (a := 7) (by decide); have e6 := lv_neT h8 (a := 8) (by decide); have e7 := lv_neT h10 (a := 9) (by decide); have e8 := lv_neT h11 (a := 10) (by decide); have e9 := lv_neT h12 (a := 11) (by decide); have e10 := lv_neT h13 (a := 12) (by decide); have e11 := lv_neT h14 (a := 13) (by decide); have e12 := lv_neT h15 (a := 14) (by decide); have e13 := lv_neT h16 (a := 15) (by decide); have e14 := lv_neT h18 (a := 16) (by decide); have e15 := lv_neT h20 (a := 17) (by decide); have e16 := lv_neT h22 (a := 18) (by decide); omega) (tgt := 183) (by decide) ?_
  exact t_Ru_value_J183 G hR hL C  v0 v1 v2 s hr
set_option maxRecDepth 100000 in
theorem c_Ru_value (l : Launch)  (v0 : Int32) (v1 : Int32) (v2 : Int32) (s : St) : CT SC l yX9_value cX9_value 3 (some .int) 1 22 (fun a => [.int v0, .int v1, .int v2]) s s (fun _ => some (.int (f_Ru_value v0 v1 v2))) :=
  ct_I okX_C (by decide) (fun _ => Nat.le_of_ble_eq_true rfl) (fun G hl hR hL C hr => t_Ru_value G hR hL C (Acc := fun v => v = (f_Ru_value v0 v1 v2))  v0 v1 v2 s (fun v hv => by rw [hv]; exact hr) ⟨_, rfl, rfl⟩)
noncomputable def f_Ru_origin_J30 (o0 : Nat) (s : St) : Option Int32 :=
  if (s.1 o0 1) = 0 then
  some 0
  else
  some (s.1 o0 2)
set_option maxHeartbeats 4000000 in
set_option maxRecDepth 100000 in
theorem t_Ru_origin_J30 (G : GG) (hR : gR G = rmx 0 0) (hL : gL G = 2) (C : Cx SC G cX9_origin RX9) {Acc : Int32 → Prop} {o0 : Nat} (ho0 : isD o0)  (s : St) (hr : ∀ v : Int32, Acc v → RtI SC G cX9_origin v s) : JJ SC G Acc (f_Ru_origin_J30 o0 s) 30 [(0, .ref (ad G o0))] [] s := by
  unfold f_Ru_origin_J30
  refine jr_aload_n C 0 rfl rfl dX9_origin_30 ?_
  refine jr_getI C FX_1 1 (oD ho0).1 (oD ho0).2 ff_1_1.1 ff_1_1.2 fl_X9_17 dX9_origin_31 ?_
  refine jr_if_eq C (tgt := 44) dX9_origin_34 (by decide) (fun h2 => ?_) (fun h2 => ?_)
  · refine jo_pos h2 ?_
    refine jr_iconst C ic_0 dX9_origin_44 ?_
    exact jr_end (fun h => hr 0 h _ _ dX9_origin_45)
  refine jo_neg h2 ?_
  refine jr_aload_n C 0 rfl rfl dX9_origin_37 ?_
  refine jr_getI C FX_1 2 (oD ho0).1 (oD ho0).2 ff_1_2.1 ff_1_2.2 fl_X9_53 dX9_origin_38 ?_
  refine jr_goto C (tgt := 45) dX9_origin_41 (by decide) ?_
  exact jr_end (fun h => hr (s.1 o0 2) h _ _ dX9_origin_45)
noncomputable def f_Ru_origin (k0 : Nat) (k1 : Nat) (s : St) : Option Int32 :=
  if (s.1 k1 1) = 0 then
  f_Ru_origin_J30 k0 s
  else
  if (s.1 k0 1) = 0 then
  some (s.1 k1 2)
  else
  if (s.1 k1 2) ≤ (s.1 k0 2) then
  f_Ru_origin_J30 k0 s
  else
  some (s.1 k1 2)
set_option maxHeartbeats 4000000 in
set_option maxRecDepth 100000 in
theorem t_Ru_origin (G : GG) (hR : gR G = rmx 0 0) (hL : gL G = 2) (C : Cx SC G cX9_origin RX9) {Acc : Int32 → Prop} {k0 : Nat} (hk0 : isD k0) {k1 : Nat} (hk1 : isD k1)  (s : St) (hr : ∀ v : Int32, Acc v → RtI SC G cX9_origin v s) : JJ SC G Acc (f_Ru_origin k0 k1 s) 0 [(0, .ref (ad G k0)), (1, .ref (ad G k1))] [] s := by
  unfold f_Ru_origin
  refine jr_aload_n C 1 rfl rfl dX9_origin_0 ?_
  refine jr_getI C FX_1 1 (oD hk1).1 (oD hk1).2 ff_1_1.1 ff_1_1.2 fl_X9_17 dX9_origin_1 ?_
  refine jr_if_eq C (tgt := 30) dX9_origin_4 (by decide) (fun h1 => ?_) (fun h1 => ?_)
  · refine jo_pos h1 ?_
    refine jr_lv [0] rfl ?_
    exact t_Ru_origin_J30 G hR hL C hk0  s hr
  refine jo_neg h1 ?_
  refine jr_aload_n C 0 rfl rfl dX9_origin_7 ?_
  refine jr_getI C FX_1 1 (oD hk0).1 (oD hk0).2 ff_1_1.1 ff_1_1.2 fl_X9_17 dX9_origin_8 ?_
  refine jr_if_eq C (tgt := 25) dX9_origin_11 (by decide) (fun h3 => ?_) (fun h3 => ?_)
  · refine jo_pos h3 ?_
    refine jr_aload_n C 1 rfl rfl dX9_origin_25 ?_
    refine jr_getI C FX_1 2 (oD hk1).1 (oD hk1).2 ff_1_2.1 ff_1_2.2 fl_X9_53 dX9_origin_26 ?_
    exact jr_end (fun h => hr (s.1 k1 2) h _ _ dX9_origin_29)
  refine jo_neg h3 ?_
  refine jr_aload_n C 1 rfl rfl dX9_origin_14 ?_
  refine jr_getI C FX_1 2 (oD hk1).1 (oD hk1).2 ff_1_2.1 ff_1_2.2 fl_X9_53 dX9_origin_15 ?_
  refine jr_aload_n C 0 rfl rfl dX9_origin_18 ?_
  refine jr_getI C FX_1 2 (oD hk0).1 (oD hk0).2 ff_1_2.1 ff_1_2.2 fl_X9_53 dX9_origin_19 ?_
  refine jr_icmp_le C (tgt := 30) dX9_origin_22 (by decide) (fun h4 => ?_) (fun h4 => ?_)
  · refine jo_pos h4 ?_
    refine jr_lv [0] rfl ?_
    exact t_Ru_origin_J30 G hR hL C hk0  s hr
  refine jo_neg h4 ?_
  refine jr_aload_n C 1 rfl rfl dX9_origin_25 ?_
  refine jr_getI C FX_1 2 (oD hk1).1 (oD hk1).2 ff_1_2.1 ff_1_2.2 fl_X9_53 dX9_origin_26 ?_
  exact jr_end (fun h => hr (s.1 k1 2) h _ _ dX9_origin_29)
set_option maxRecDepth 100000 in
theorem c_Ru_origin (l : Launch) {k0 : Nat} (hk0 : isD k0) {k1 : Nat} (hk1 : isD k1)  (s : St) {q : Int32} (h : f_Ru_origin k0 k1 s = some q) : CT SC l yX9_origin cX9_origin 2 (some .int) 0 0 (fun a => [.ref (a k0), .ref (a k1)]) s s (fun _ => some (.int q)) :=
  ct_I okX_C (by decide) (fun _ => Nat.le_of_ble_eq_true rfl) (fun G hl hR hL C hr => t_Ru_origin G hR hL C (Acc := fun v => v = q) hk0 hk1  s (fun v hv => by rw [hv]; exact hr) ⟨_, h, rfl⟩)
noncomputable def f_Me_isByte (v0 : Int32) : Int32 :=
  if v0 < 0 then
  0
  else
  if 4096 ≤ v0 then
  0
  else
  1
set_option maxHeartbeats 4000000 in
set_option maxRecDepth 100000 in
theorem t_Me_isByte (G : GG) (hR : gR G = rmx 0 0) (hL : gL G = 1) (C : Cx SC G cX6_isByte RX6) {Acc : Int32 → Prop} {B : Nat} (hB : isM B) (v0 : Int32) (s : St) (hr : ∀ v : Int32, Acc v → RtZ SC G cX6_isByte v s) : JJ SC G Acc (some (f_Me_isByte v0)) 0 [(0, .int v0)] [] s := by
  unfold f_Me_isByte
  refine jr_iload_n C 0 rfl rfl dX6_isByte_0 ?_
  refine jr_if_lt C (tgt := 15) dX6_isByte_1 (by decide) (fun h1 => ?_) (fun h1 => ?_)
  · refine jo_posP h1 ?_
    refine jr_iconst C ic_0 dX6_isByte_15 ?_
    exact jr_end (fun h => hr 0 h _ _ _ bN0 dX6_isByte_16)
  refine jo_negP h1 ?_
  refine jr_iload_n C 0 rfl rfl dX6_isByte_4 ?_
  refine jr_sipush C sp_4096 dX6_isByte_5 ?_
  refine jr_icmp_ge C (tgt := 15) dX6_isByte_8 (by decide) (fun h2 => ?_) (fun h2 => ?_)
  · refine jo_posP h2 ?_
    refine jr_iconst C ic_0 dX6_isByte_15 ?_
    exact jr_end (fun h => hr 0 h _ _ _ bN0 dX6_isByte_16)
  refine jo_negP h2 ?_
  refine jr_iconst C ic_1 dX6_isByte_11 ?_
  refine jr_goto C (tgt := 16) dX6_isByte_12 (by decide) ?_
  exact jr_end (fun h => hr 1 h _ _ _ bN1 dX6_isByte_16)
set_option maxRecDepth 100000 in
theorem c_Me_isByte (l : Launch) {B : Nat} (hB : isM B) (v0 : Int32) (s : St) : CT SC l yX6_isByte cX6_isByte 1 (some .boolean) 0 0 (fun a => [.int v0]) s s (fun _ => some (.int (f_Me_isByte v0))) :=
  ct_Z okX_C (by decide) (fun _ => Nat.le_of_ble_eq_true rfl) (fun G hl hR hL C hr => t_Me_isByte G hR hL C (Acc := fun v => v = (f_Me_isByte v0)) hB v0 s (fun v hv => by rw [hv]; exact hr) ⟨_, rfl, rfl⟩)
noncomputable def f_Me_putByte_J42 (B : Nat) (w0 : Int32) (w1 : Int32) (s : St) : Option St :=
  gd w1 4096 <|
  lt (uI s (B + 4) (w1 : Int32).toNatClampNeg w0) fun s4 =>
  some s4
set_option maxHeartbeats 4000000 in
set_option maxRecDepth 100000 in
theorem t_Me_putByte_J42 (G : GG) (hR : gR G = rmx 0 0) (hL : gL G = 5) (C : Cx SC G cX6_putByte RX6) {Acc : St → Prop} {B : Nat} (hB : isM B) (w0 : Int32) (w1 : Int32) (s : St) (hr : ∀ v : St, Acc v → RtV SC G cX6_putByte v) : JJ SC G Acc (f_Me_putByte_J42 B w0 w1 s) 42 [] [.int w0, .int w1, .ref (ad G (B + 4))] s := by
  unfold f_Me_putByte_J42
  refine jr_iast C (oM_4 hB).1 (oM_4 hB).2.1 (oM_4 hB).2.2 dX6_putByte_42 (jr_ltS fun s4 => ?_)
  exact jr_end (fun h => hr s4 h _ _ dX6_putByte_43)
noncomputable def f_Me_putByte (B : Nat) (v1 : Int32) (v2 : Int32) (v3 : Int32) (v4 : Int32) (s : St) : Option St :=
  gd v1 4096 <|
  lt (uI s (B + 2) (v1 : Int32).toNatClampNeg (v2 &&& 255)) fun s1 =>
  gd v1 4096 <|
  lt (uI s1 (B + 3) (v1 : Int32).toNatClampNeg (v3 &&& 255)) fun s2 =>
  gd v1 4096 <|
  if (s2.1 (B + 3) (v1 : Int32).toNatClampNeg) = 0 then
  f_Me_putByte_J42 B 0 v1 s2
  else
  f_Me_putByte_J42 B v4 v1 s2
set_option maxHeartbeats 4000000 in
set_option maxRecDepth 100000 in
theorem t_Me_putByte (G : GG) (hR : gR G = rmx 0 0) (hL : gL G = 5) (C : Cx SC G cX6_putByte RX6) {Acc : St → Prop} {B : Nat} (hB : isM B) (v1 : Int32) (v2 : Int32) (v3 : Int32) (v4 : Int32) (s : St) (hr : ∀ v : St, Acc v → RtV SC G cX6_putByte v) : JJ SC G Acc (f_Me_putByte B v1 v2 v3 v4 s) 0 [(0, .ref (ad G (B + 1))), (1, .int v1), (2, .int v2), (3, .int v3), (4, .int v4)] [] s := by
  unfold f_Me_putByte
  refine jr_aload_n C 0 rfl rfl dX6_putByte_0 ?_
  refine jr_getR C FX_6 0 (oM_1 hB).1 (oM_1 hB).2 ff_6_0.1 ff_6_0.2 (rM_1_0 _ hB) fl_X6_11 dX6_putByte_1 ?_
  refine jr_iload_n C 1 rfl rfl dX6_putByte_4 ?_
  refine jr_iload_n C 2 rfl rfl dX6_putByte_5 ?_
  refine jr_sipush C sp_255 dX6_putByte_6 ?_
  refine jr_iand C dX6_putByte_9 ?_
  refine jr_iast C (oM_2 hB).1 (oM_2 hB).2.1 (oM_2 hB).2.2 dX6_putByte_10 (jr_ltS fun s1 => ?_)
  refine jr_aload_n C 0 rfl rfl dX6_putByte_11 ?_
  refine jr_getR C FX_6 1 (oM_1 hB).1 (oM_1 hB).2 ff_6_1.1 ff_6_1.2 (rM_1_1 _ hB) fl_X6_15 dX6_putByte_12 ?_
  refine jr_iload_n C 1 rfl rfl dX6_putByte_15 ?_
  refine jr_iload_n C 3 rfl rfl dX6_putByte_16 ?_
  refine jr_sipush C sp_255 dX6_putByte_17 ?_
  refine jr_iand C dX6_putByte_20 ?_
  refine jr_iast C (oM_3 hB).1 (oM_3 hB).2.1 (oM_3 hB).2.2 dX6_putByte_21 (jr_ltS fun s2 => ?_)
  refine jr_aload_n C 0 rfl rfl dX6_putByte_22 ?_
  refine jr_getR C FX_6 2 (oM_1 hB).1 (oM_1 hB).2 ff_6_2.1 ff_6_2.2 (rM_1_2 _ hB) fl_X6_18 dX6_putByte_23 ?_
  refine jr_iload_n C 1 rfl rfl dX6_putByte_26 ?_
  refine jr_aload_n C 0 rfl rfl dX6_putByte_27 ?_
  refine jr_getR C FX_6 1 (oM_1 hB).1 (oM_1 hB).2 ff_6_1.1 ff_6_1.2 (rM_1_1 _ hB) fl_X6_15 dX6_putByte_28 ?_
  refine jr_iload_n C 1 rfl rfl dX6_putByte_31 ?_
  refine jr_iald C (oM_3 hB).1 (oM_3 hB).2.1 (oM_3 hB).2.2 dX6_putByte_32 ?_
  refine jr_if_ne C (tgt := 40) dX6_putByte_33 (by decide) (fun h3 => ?_) (fun h3 => ?_)
  · refine jo_neg h3 ?_
    refine jr_iload C 4 rfl dX6_putByte_40 ?_
    refine jr_lv [] rfl ?_
    exact t_Me_putByte_J42 G hR hL C hB v4 v1 s2 hr
  refine jo_pos h3 ?_
  refine jr_iconst C ic_0 dX6_putByte_36 ?_
  refine jr_goto C (tgt := 42) dX6_putByte_37 (by decide) ?_
  refine jr_lv [] rfl ?_
  exact t_Me_putByte_J42 G hR hL C hB 0 v1 s2 hr
set_option maxRecDepth 100000 in
theorem c_Me_putByte (l : Launch) {B : Nat} (hB : isM B) (v1 : Int32) (v2 : Int32) (v3 : Int32) (v4 : Int32) (s : St) {q : St} (h : f_Me_putByte B v1 v2 v3 v4 s = some q) : CT SC l yX6_putByte cX6_putByte 5 none 0 0 (fun a => [.ref (a (B + 1)), .int v1, .int v2, .int v3, .int v4]) s q (fun _ => none) :=
  ct_V okX_C (by decide) (fun _ => Nat.le_of_ble_eq_true rfl) (fun G hl hR hL C hr => t_Me_putByte G hR hL C (Acc := fun v => v = q) hB v1 v2 v3 v4 s (fun v hv => by rw [hv]; exact hr) ⟨_, h, rfl⟩)
noncomputable def f_Me_unset_L3 (B : Nat) (v1 : Int32) (v2 : Int32) (v3 : Int32) (v4 : Int32) (s : St) : Option ((Int32 × St) ⊕ (Int32 × St)) :=
  if v2 ≤ v4 then
  some (.inr (v4, s))
  else
  if (f_Me_isByte (v1 + v4)) = 0 then
  some (.inr (v4, s))
  else
  gd (v1 + v4) 4096 <|
  lt (uI s (B + 5) ((v1 + v4) : Int32).toNatClampNeg (bN 1)) fun s3 =>
  (f_Me_nextFilling B s3).bind fun q4 =>
  (f_Me_putByte B (v1 + v4) (q4.1) 255 v3 (q4.2)).bind fun q6 =>
  some (.inl ((v4 + 1), q6))
set_option maxHeartbeats 4000000 in
set_option maxRecDepth 100000 in
theorem t_Me_unset_L3 (G : GG) (hR : gR G = rmx 1 24) (hL : gL G = 5) (C : Cx SC G cX6_unset RX6) {Acc : ((Int32 × St) ⊕ (Int32 × St)) → Prop} {B : Nat} (hB : isM B) (v1 : Int32) (v2 : Int32) (v3 : Int32) (v4 : Int32) (s : St) (hb1 : ∀ (a4 : Int32) (t : St), Acc (.inl (a4, t)) → KK SC G 3 [(0, .ref (ad G (B + 1))), (1, .int v1), (2, .int v2), (3, .int v3), (4, .int a4)] [] t) (hx1 : ∀ (a4 : Int32) (t : St), Acc (.inr (a4, t)) → KK SC G 51 [(0, .ref (ad G (B + 1))), (1, .int v1), (2, .int v2), (3, .int v3), (4, .int a4)] [] t) : JJ SC G Acc (f_Me_unset_L3 B v1 v2 v3 v4 s) 3 [(0, .ref (ad G (B + 1))), (1, .int v1), (2, .int v2), (3, .int v3), (4, .int v4)] [] s := by
  unfold f_Me_unset_L3
  refine jr_iload C 4 rfl dX6_unset_3 ?_
  refine jr_iload_n C 2 rfl rfl dX6_unset_5 ?_
  refine jr_icmp_ge C (tgt := 51) dX6_unset_6 (by decide) (fun h1 => ?_) (fun h1 => ?_)
  · refine jo_pos h1 ?_
    exact jr_end (fun h => hx1 v4 s h)
  refine jo_neg h1 ?_
  refine jr_iload_n C 1 rfl rfl dX6_unset_9 ?_
  refine jr_iload C 4 rfl dX6_unset_10 ?_
  refine jr_iadd C dX6_unset_12 ?_
  refine jr_callSI C km_X6_35 (rk hR rfl) (c_Me_isByte (gl G) isM_20 (v1 + v4) s) rfl rfl rfl (Nat.le_of_ble_eq_true rfl) dX6_unset_13 ?_
  refine jr_if_eq C (tgt := 51) dX6_unset_16 (by decide) (fun h2 => ?_) (fun h2 => ?_)
  · refine jo_pos h2 ?_
    exact jr_end (fun h => hx1 v4 s h)
  refine jo_neg h2 ?_
  refine jr_aload_n C 0 rfl rfl dX6_unset_19 ?_
  refine jr_getR C FX_6 3 (oM_1 hB).1 (oM_1 hB).2 ff_6_3.1 ff_6_3.2 (rM_1_3 _ hB) fl_X6_21 dX6_unset_20 ?_
  refine jr_iload_n C 1 rfl rfl dX6_unset_23 ?_
  refine jr_iload C 4 rfl dX6_unset_24 ?_
  refine jr_iadd C dX6_unset_26 ?_
  refine jr_iconst C ic_1 dX6_unset_27 ?_
  refine jr_zast C (oM_5 hB).1 (oM_5 hB).2.1 (oM_5 hB).2.2 dX6_unset_28 (jr_ltS fun s3 => ?_)
  refine jr_aload_n C 0 rfl rfl dX6_unset_29 ?_
  refine jr_iload_n C 1 rfl rfl dX6_unset_30 ?_
  refine jr_iload C 4 rfl dX6_unset_31 ?_
  refine jr_iadd C dX6_unset_33 ?_
  refine jr_aload_n C 0 rfl rfl dX6_unset_34 ?_
  refine jr_bind (fun q4 e5 => ?_)
  refine jr_callVI C FX_6 km_X6_39 (oM_1 hB).1 (oM_1 hB).2 (rk hR rfl) (c_Me_nextFilling (gl G) hB s3 e5) rfl rfl rfl (Nat.le_of_ble_eq_true rfl) dX6_unset_35 ?_
  refine jr_sipush C sp_255 dX6_unset_38 ?_
  refine jr_iload_n C 3 rfl rfl dX6_unset_41 ?_
  refine jr_bind (fun q6 e7 => ?_)
  refine jr_callVV C FX_6 km_X6_43 (oM_1 hB).1 (oM_1 hB).2 (rk hR rfl) (c_Me_putByte (gl G) hB (v1 + v4) (q4.1) 255 v3 (q4.2) e7) rfl rfl rfl (Nat.le_of_ble_eq_true rfl) dX6_unset_42 ?_
  refine jr_iinc C 4 rfl ii_1 (lv' := [(4, .int (v4 + 1)), (0, .ref (ad G (B + 1))), (1, .int v1), (2, .int v2), (3, .int v3)]) (ltL hL rfl) rfl dX6_unset_45 ?_
  refine jr_goto C (tgt := 3) dX6_unset_48 (by decide) ?_
  refine jr_lv [1, 2, 3, 4, 0] rfl ?_
  exact jr_end (fun h => hb1 (v4 + 1) q6 h)
noncomputable def f_Me_unset (B : Nat) (v1 : Int32) (v2 : Int32) (v3 : Int32) (s : St) : Option St :=
  (wh (fun a : (Int32 × St) => f_Me_unset_L3 B v1 v2 v3 a.1 a.2) (0, s)).bind (fun b8 =>
  some (b8.2))
set_option maxHeartbeats 4000000 in
set_option maxRecDepth 100000 in
theorem t_Me_unset (G : GG) (hR : gR G = rmx 1 24) (hL : gL G = 5) (C : Cx SC G cX6_unset RX6) {Acc : St → Prop} {B : Nat} (hB : isM B) (v1 : Int32) (v2 : Int32) (v3 : Int32) (s : St) (hr : ∀ v : St, Acc v → RtV SC G cX6_unset v) : JJ SC G Acc (f_Me_unset B v1 v2 v3 s) 0 [(0, .ref (ad G (B + 1))), (1, .int v1), (2, .int v2), (3, .int v3)] [] s := by
  unfold f_Me_unset
  refine jr_iconst C ic_0 dX6_unset_0 ?_
  refine jr_istore C (lv' := [(4, .int 0), (0, .ref (ad G (B + 1))), (1, .int v1), (2, .int v2), (3, .int v3)]) (ltL hL rfl) rfl dX6_unset_1 ?_
  refine jr_lv [1, 2, 3, 4, 0] rfl ?_
  refine jr_loopB (pc := 3) (pcx := 51) (f := fun a : (Int32 × St) => f_Me_unset_L3 B v1 v2 v3 a.1 a.2) (fun a : (Int32 × St) => [(0, .ref (ad G (B + 1))), (1, .int v1), (2, .int v2), (3, .int v3), (4, .int (a.1))]) (fun a : (Int32 × St) => a.2) (0, s) (fun a => t_Me_unset_L3 G hR hL C hB v1 v2 v3 a.1 a.2 (fun _ _ h => h) (fun _ _ h => h)) (fun b8 => ?_)
  exact jr_end (fun h => hr (b8.2) h _ _ dX6_unset_51)
set_option maxRecDepth 100000 in
theorem c_Me_unset (l : Launch) {B : Nat} (hB : isM B) (v1 : Int32) (v2 : Int32) (v3 : Int32) (s : St) {q : St} (h : f_Me_unset B v1 v2 v3 s = some q) : CT SC l yX6_unset cX6_unset 5 none 1 24 (fun a => [.ref (a (B + 1)), .int v1, .int v2, .int v3]) s q (fun _ => none) :=
  ct_V okX_C (by decide) (fun _ => Nat.le_of_ble_eq_true rfl) (fun G hl hR hL C hr => t_Me_unset G hR hL C (Acc := fun v => v = q) hB v1 v2 v3 s (fun v hv => by rw [hv]; exact hr) ⟨_, h, rfl⟩)
noncomputable def f_Me_moveStack_J86_1 (B : Nat) (v2 : Int32) (v3 : Int32) (v5 : Int32) (v6 : Int32) (s : St) : Option ((Int32 × St) ⊕ (Int32 × St)) :=
  some (.inl ((v6 + 1), s))
set_option maxHeartbeats 4000000 in
set_option maxRecDepth 100000 in
theorem t_Me_moveStack_J86_1 (G : GG) (hR : gR G = rmx 2 48) (hL : gL G = 7) (C : Cx SC G cX6_moveStack RX6) {Acc : ((Int32 × St) ⊕ (Int32 × St)) → Prop} {B : Nat} (hB : isM B) (v2 : Int32) (v3 : Int32) (v5 : Int32) (v6 : Int32) (s : St) (hb1 : ∀ (a6 : Int32) (t : St), Acc (.inl (a6, t)) → KK SC G 44 [(0, .ref (ad G (B + 1))), (2, .int v2), (3, .int v3), (5, .int v5), (6, .int a6)] [] t) (hx1 : ∀ (a6 : Int32) (t : St), Acc (.inr (a6, t)) → KK SC G 92 [(0, .ref (ad G (B + 1))), (2, .int v2), (3, .int v3), (5, .int v5), (6, .int a6)] [] t) : JJ SC G Acc (f_Me_moveStack_J86_1 B v2 v3 v5 v6 s) 86 [(0, .ref (ad G (B + 1))), (2, .int v2), (3, .int v3), (5, .int v5), (6, .int v6)] [] s := by
  unfold f_Me_moveStack_J86_1
  refine jr_iinc C 4 rfl ii_1 (lv' := [(6, .int (v6 + 1)), (0, .ref (ad G (B + 1))), (2, .int v2), (3, .int v3), (5, .int v5)]) (ltL hL rfl) rfl dX6_moveStack_86 ?_
  refine jr_goto C (tgt := 44) dX6_moveStack_89 (by decide) ?_
  refine jr_lv [1, 2, 3, 4, 0] rfl ?_
  exact jr_end (fun h => hb1 (v6 + 1) s h)
noncomputable def f_Me_moveStack_L44 (B : Nat) (v2 : Int32) (v3 : Int32) (v5 : Int32) (v6 : Int32) (s : St) : Option ((Int32 × St) ⊕ (Int32 × St)) :=
  if v5 ≤ v6 then
  some (.inr (v6, s))
  else
  if v2 ≤ v6 then
  (gd v6 4096 <|
  if (s.1 (B + 5) (v6 : Int32).toNatClampNeg) = 0 then
  ((f_Me_unset B v6 1 v3 s).bind fun q8 =>
  f_Me_moveStack_J86_1 B v2 v3 v5 v6 q8)
  else
  f_Me_moveStack_J86_1 B v2 v3 v5 v6 s)
  else
  gd v6 4096 <|
  lt (uI s (B + 5) (v6 : Int32).toNatClampNeg (bN 0)) fun s10 =>
  f_Me_moveStack_J86_1 B v2 v3 v5 v6 s10
set_option maxHeartbeats 4000000 in
set_option maxRecDepth 100000 in
theorem t_Me_moveStack_L44 (G : GG) (hR : gR G = rmx 2 48) (hL : gL G = 7) (C : Cx SC G cX6_moveStack RX6) {Acc : ((Int32 × St) ⊕ (Int32 × St)) → Prop} {B : Nat} (hB : isM B) (v2 : Int32) (v3 : Int32) (v5 : Int32) (v6 : Int32) (s : St) (hb1 : ∀ (a6 : Int32) (t : St), Acc (.inl (a6, t)) → KK SC G 44 [(0, .ref (ad G (B + 1))), (2, .int v2), (3, .int v3), (5, .int v5), (6, .int a6)] [] t) (hx1 : ∀ (a6 : Int32) (t : St), Acc (.inr (a6, t)) → KK SC G 92 [(0, .ref (ad G (B + 1))), (2, .int v2), (3, .int v3), (5, .int v5), (6, .int a6)] [] t) : JJ SC G Acc (f_Me_moveStack_L44 B v2 v3 v5 v6 s) 44 [(0, .ref (ad G (B + 1))), (2, .int v2), (3, .int v3), (5, .int v5), (6, .int v6)] [] s := by
  unfold f_Me_moveStack_L44
  refine jr_iload C 4 rfl dX6_moveStack_44 ?_
  refine jr_iload C 3 rfl dX6_moveStack_46 ?_
  refine jr_icmp_ge C (tgt := 92) dX6_moveStack_48 (by decide) (fun h5 => ?_) (fun h5 => ?_)
  · refine jo_pos h5 ?_
    exact jr_end (fun h => hx1 v6 s h)
  refine jo_neg h5 ?_
  refine jr_iload C 4 rfl dX6_moveStack_51 ?_
  refine jr_iload_n C 1 rfl rfl dX6_moveStack_53 ?_
  refine jr_icmp_ge C (tgt := 68) dX6_moveStack_54 (by decide) (fun h6 => ?_) (fun h6 => ?_)
  · refine jo_pos h6 ?_
    refine jr_aload_n C 0 rfl rfl dX6_moveStack_68 ?_
    refine jr_getR C FX_6 3 (oM_1 hB).1 (oM_1 hB).2 ff_6_3.1 ff_6_3.2 (rM_1_3 _ hB) fl_X6_21 dX6_moveStack_69 ?_
    refine jr_iload C 4 rfl dX6_moveStack_72 ?_
    refine jr_zald C (oM_5 hB).1 (oM_5 hB).2.1 (oM_5 hB).2.2 dX6_moveStack_74 ?_
    refine jr_if_ne C (tgt := 86) dX6_moveStack_75 (by decide) (fun h7 => ?_) (fun h7 => ?_)
    · refine jo_neg h7 ?_
      exact t_Me_moveStack_J86_1 G hR hL C hB v2 v3 v5 v6 s hb1 hx1
    refine jo_pos h7 ?_
    refine jr_aload_n C 0 rfl rfl dX6_moveStack_78 ?_
    refine jr_iload C 4 rfl dX6_moveStack_79 ?_
    refine jr_iconst C ic_1 dX6_moveStack_81 ?_
    refine jr_iload_n C 2 rfl rfl dX6_moveStack_82 ?_
    refine jr_bind (fun q8 e9 => ?_)
    refine jr_callVV C FX_6 km_X6_56 (oM_1 hB).1 (oM_1 hB).2 (rk hR rfl) (c_Me_unset (gl G) hB v6 1 v3 s e9) rfl rfl rfl (Nat.le_of_ble_eq_true rfl) dX6_moveStack_83 ?_
    exact t_Me_moveStack_J86_1 G hR hL C hB v2 v3 v5 v6 q8 hb1 hx1
  refine jo_neg h6 ?_
  refine jr_aload_n C 0 rfl rfl dX6_moveStack_57 ?_
  refine jr_getR C FX_6 3 (oM_1 hB).1 (oM_1 hB).2 ff_6_3.1 ff_6_3.2 (rM_1_3 _ hB) fl_X6_21 dX6_moveStack_58 ?_
  refine jr_iload C 4 rfl dX6_moveStack_61 ?_
  refine jr_iconst C ic_0 dX6_moveStack_63 ?_
  refine jr_zast C (oM_5 hB).1 (oM_5 hB).2.1 (oM_5 hB).2.2 dX6_moveStack_64 (jr_ltS fun s10 => ?_)
  refine jr_goto C (tgt := 86) dX6_moveStack_65 (by decide) ?_
  exact t_Me_moveStack_J86_1 G hR hL C hB v2 v3 v5 v6 s10 hb1 hx1
noncomputable def f_Me_moveStack_J38 (B : Nat) (v2 : Int32) (v3 : Int32) (v4 : Int32) (w0 : Int32) (s : St) : Option St :=
  (wh (fun a : (Int32 × St) => f_Me_moveStack_L44 B v2 v3 w0 a.1 a.2) (v4, s)).bind (fun b11 =>
  lt (uI (b11.2) (B + 1) 5 0) fun s12 =>
  some s12)
set_option maxHeartbeats 4000000 in
set_option maxRecDepth 100000 in
theorem t_Me_moveStack_J38 (G : GG) (hR : gR G = rmx 2 48) (hL : gL G = 7) (C : Cx SC G cX6_moveStack RX6) {Acc : St → Prop} {B : Nat} (hB : isM B) (v2 : Int32) (v3 : Int32) (v4 : Int32) (w0 : Int32) (s : St) (hr : ∀ v : St, Acc v → RtV SC G cX6_moveStack v) : JJ SC G Acc (f_Me_moveStack_J38 B v2 v3 v4 w0 s) 38 [(0, .ref (ad G (B + 1))), (2, .int v2), (3, .int v3), (4, .int v4)] [.int w0] s := by
  unfold f_Me_moveStack_J38
  refine jr_istore C (lv' := [(5, .int w0), (0, .ref (ad G (B + 1))), (2, .int v2), (3, .int v3), (4, .int v4)]) (ltL hL rfl) rfl dX6_moveStack_38 ?_
  refine jr_iload C 4 rfl dX6_moveStack_40 ?_
  refine jr_istore C (lv' := [(6, .int v4), (5, .int w0), (0, .ref (ad G (B + 1))), (2, .int v2), (3, .int v3), (4, .int v4)]) (ltL hL rfl) rfl dX6_moveStack_42 ?_
  refine jr_lv [2, 3, 4, 1, 0] rfl ?_
  refine jr_loopB (pc := 44) (pcx := 92) (f := fun a : (Int32 × St) => f_Me_moveStack_L44 B v2 v3 w0 a.1 a.2) (fun a : (Int32 × St) => [(0, .ref (ad G (B + 1))), (2, .int v2), (3, .int v3), (5, .int w0), (6, .int (a.1))]) (fun a : (Int32 × St) => a.2) (v4, s) (fun a => t_Me_moveStack_L44 G hR hL C hB v2 v3 w0 a.1 a.2 (fun _ _ h => h) (fun _ _ h => h)) (fun b11 => ?_)
  refine jr_aload_n C 0 rfl rfl dX6_moveStack_92 ?_
  refine jr_iconst C ic_0 dX6_moveStack_93 ?_
  refine jr_putZ C FX_6 5 (oM_1 hB).1 (oM_1 hB).2 ff_6_5.1 ff_6_5.2 rfl rfl (Or.inl rfl) fl_X6_29 dX6_moveStack_94 (jr_ltS fun s12 => ?_)
  exact jr_end (fun h => hr s12 h _ _ dX6_moveStack_97)
noncomputable def f_Me_moveStack_J18 (B : Nat) (v1 : Int32) (v2 : Int32) (v3 : Int32) (w0 : Int32) (s : St) : Option St :=
  if (s.1 (B + 1) 5) = 0 then
  (lt (if v1 < v2 then v2 else v1) fun x4 =>
  f_Me_moveStack_J38 B v2 v3 w0 x4 s)
  else
  f_Me_moveStack_J38 B v2 v3 w0 4096 s
set_option maxHeartbeats 4000000 in
set_option maxRecDepth 100000 in
theorem t_Me_moveStack_J18 (G : GG) (hR : gR G = rmx 2 48) (hL : gL G = 7) (C : Cx SC G cX6_moveStack RX6) {Acc : St → Prop} {B : Nat} (hB : isM B) (v1 : Int32) (v2 : Int32) (v3 : Int32) (w0 : Int32) (s : St) (hr : ∀ v : St, Acc v → RtV SC G cX6_moveStack v) : JJ SC G Acc (f_Me_moveStack_J18 B v1 v2 v3 w0 s) 18 [(0, .ref (ad G (B + 1))), (1, .int v1), (2, .int v2), (3, .int v3)] [.int w0] s := by
  unfold f_Me_moveStack_J18
  refine jr_istore C (lv' := [(4, .int w0), (0, .ref (ad G (B + 1))), (1, .int v1), (2, .int v2), (3, .int v3)]) (ltL hL rfl) rfl dX6_moveStack_18 ?_
  refine jr_aload_n C 1 rfl rfl dX6_moveStack_20 ?_
  refine jr_getI C FX_6 5 (oM_1 hB).1 (oM_1 hB).2 ff_6_5.1 ff_6_5.2 fl_X6_29 dX6_moveStack_21 ?_
  refine jr_if_eq C (tgt := 33) dX6_moveStack_24 (by decide) (fun h3 => ?_) (fun h3 => ?_)
  · refine jo_pos h3 ?_
    refine jr_iload_n C 2 rfl rfl dX6_moveStack_33 ?_
    refine jr_iload_n C 3 rfl rfl dX6_moveStack_34 ?_
    refine jr_max C km_X6_53 (rk2 hR rfl) (Nat.le_of_ble_eq_true rfl) dX6_moveStack_35 ?_
    refine jr_ltI (fun x4 => ?_)
    refine jr_lv [1, 3, 4, 0] rfl ?_
    exact t_Me_moveStack_J38 G hR hL C hB v2 v3 w0 x4 s hr
  refine jo_neg h3 ?_
  refine jr_sipush C sp_4096 dX6_moveStack_27 ?_
  refine jr_goto C (tgt := 38) dX6_moveStack_30 (by decide) ?_
  refine jr_lv [1, 3, 4, 0] rfl ?_
  exact t_Me_moveStack_J38 G hR hL C hB v2 v3 w0 4096 s hr
noncomputable def f_Me_moveStack (B : Nat) (v1 : Int32) (v2 : Int32) (v3 : Int32) (s : St) : Option St :=
  if (s.1 (B + 1) 5) = 0 then
  (lt (if v2 < v1 then v2 else v1) fun x2 =>
  f_Me_moveStack_J18 B v1 v2 v3 x2 s)
  else
  f_Me_moveStack_J18 B v1 v2 v3 3072 s
set_option maxHeartbeats 4000000 in
set_option maxRecDepth 100000 in
theorem t_Me_moveStack (G : GG) (hR : gR G = rmx 2 48) (hL : gL G = 7) (C : Cx SC G cX6_moveStack RX6) {Acc : St → Prop} {B : Nat} (hB : isM B) (v1 : Int32) (v2 : Int32) (v3 : Int32) (s : St) (hr : ∀ v : St, Acc v → RtV SC G cX6_moveStack v) : JJ SC G Acc (f_Me_moveStack B v1 v2 v3 s) 0 [(0, .ref (ad G (B + 1))), (1, .int v1), (2, .int v2), (3, .int v3)] [] s := by
  unfold f_Me_moveStack
  refine jr_aload_n C 0 rfl rfl dX6_moveStack_0 ?_
  refine jr_getI C FX_6 5 (oM_1 hB).1 (oM_1 hB).2 ff_6_5.1 ff_6_5.2 fl_X6_29 dX6_moveStack_1 ?_
  refine jr_if_eq C (tgt := 13) dX6_moveStack_4 (by decide) (fun h1 => ?_) (fun h1 => ?_)
  · refine jo_pos h1 ?_
    refine jr_iload_n C 1 rfl rfl dX6_moveStack_13 ?_
    refine jr_iload_n C 2 rfl rfl dX6_moveStack_14 ?_
    refine jr_min C km_X6_47 (rk2 hR rfl) (Nat.le_of_ble_eq_true rfl) dX6_moveStack_15 ?_
    refine jr_ltI (fun x2 => ?_)
    exact t_Me_moveStack_J18 G hR hL C hB v1 v2 v3 x2 s hr
  refine jo_neg h1 ?_
  refine jr_sipush C sp_3072 dX6_moveStack_7 ?_
  refine jr_goto C (tgt := 18) dX6_moveStack_10 (by decide) ?_
  exact t_Me_moveStack_J18 G hR hL C hB v1 v2 v3 3072 s hr
set_option maxRecDepth 100000 in
theorem c_Me_moveStack (l : Launch) {B : Nat} (hB : isM B) (v1 : Int32) (v2 : Int32) (v3 : Int32) (s : St) {q : St} (h : f_Me_moveStack B v1 v2 v3 s = some q) : CT SC l yX6_moveStack cX6_moveStack 7 none 2 48 (fun a => [.ref (a (B + 1)), .int v1, .int v2, .int v3]) s q (fun _ => none) :=
  ct_V okX_C (by decide) (fun _ => Nat.le_of_ble_eq_true rfl) (fun G hl hR hL C hr => t_Me_moveStack G hR hL C (Acc := fun v => v = q) hB v1 v2 v3 s (fun v hv => by rw [hv]; exact hr) ⟨_, h, rfl⟩)
noncomputable def f_Ma_give_J62 (B : Nat) (v2 : Int32) (v3 : Int32) (v4 : Int32) (o5 : Nat) (s : St) : Option St :=
  (f_Da_put o5 v2 v3 v4 s).bind fun q3 =>
  some q3
set_option maxHeartbeats 4000000 in
set_option maxRecDepth 100000 in
theorem t_Ma_give_J62 (G : GG) (hR : gR G = rmx 3 74) (hL : gL G = 6) (C : Cx SC G cX5_give RX5) {Acc : St → Prop} {B : Nat} (hB : isM B) {o5 : Nat} (ho5 : isD o5) (v2 : Int32) (v3 : Int32) (v4 : Int32) (s : St) (hr : ∀ v : St, Acc v → RtV SC G cX5_give v) : JJ SC G Acc (f_Ma_give_J62 B v2 v3 v4 o5 s) 62 [(2, .int v2), (3, .int v3), (4, .int v4), (5, .ref (ad G o5))] [] s := by
  unfold f_Ma_give_J62
  refine jr_aload C 3 rfl dX5_give_62 ?_
  refine jr_iload_n C 0 rfl rfl dX5_give_64 ?_
  refine jr_iload_n C 1 rfl rfl dX5_give_65 ?_
  refine jr_iload C 2 rfl dX5_give_66 ?_
  refine jr_bind (fun q3 e4 => ?_)
  refine jr_callVV C FX_1 km_X5_79 (oD ho5).1 (oD ho5).2 (rk hR rfl) (c_Da_put (gl G) ho5 v2 v3 v4 s e4) rfl rfl rfl (Nat.le_of_ble_eq_true rfl) dX5_give_68 ?_
  exact jr_end (fun h => hr q3 h _ _ dX5_give_71)
noncomputable def f_Ma_give_J35 (B : Nat) (s : St) : Option St :=
  (f_Ma_trap B 2 s).bind fun q6 =>
  some q6
set_option maxHeartbeats 4000000 in
set_option maxRecDepth 100000 in
theorem t_Ma_give_J35 (G : GG) (hR : gR G = rmx 3 74) (hL : gL G = 6) (C : Cx SC G cX5_give RX5) {Acc : St → Prop} {B : Nat} (hB : isM B)  (s : St) (hr : ∀ v : St, Acc v → RtV SC G cX5_give v) : JJ SC G Acc (f_Ma_give_J35 B s) 35 [(0, .ref (ad G B))] [] s := by
  unfold f_Ma_give_J35
  refine jr_aload_n C 0 rfl rfl dX5_give_35 ?_
  refine jr_iconst C ic_2 dX5_give_36 ?_
  refine jr_bind (fun q6 e7 => ?_)
  refine jr_callVV C FX_5 km_X5_229 (oM_0 hB).1 (oM_0 hB).2 (rk hR rfl) (c_Ma_trap (gl G) hB 2 s e7) rfl rfl rfl (Nat.le_of_ble_eq_true rfl) dX5_give_37 ?_
  exact jr_end (fun h => hr q6 h _ _ dX5_give_40)
noncomputable def f_Ma_give (B : Nat) (v1 : Int32) (v2 : Int32) (v3 : Int32) (v4 : Int32) (s : St) : Option St :=
  gd (v1 &&& 7) 8 <|
  if v1 = 7 then
  (if v3 = 0 then
  (if v2 < 3072 then
  f_Ma_give_J35 B s
  else
  if v2 ≤ 4096 then
  ((f_Me_moveStack B (s.1 (B + 26 + ((v1 &&& 7) : Int32).toNatClampNeg) 0) v2 (512 + (s.1 B 9)) s).bind fun q10 =>
  f_Ma_give_J62 B v2 v3 v4 (B + 26 + ((v1 &&& 7) : Int32).toNatClampNeg) q10)
  else
  f_Ma_give_J35 B s)
  else
  f_Ma_give_J35 B s)
  else
  f_Ma_give_J62 B v2 v3 v4 (B + 26 + ((v1 &&& 7) : Int32).toNatClampNeg) s
set_option maxHeartbeats 4000000 in
set_option maxRecDepth 100000 in
theorem t_Ma_give (G : GG) (hR : gR G = rmx 3 74) (hL : gL G = 6) (C : Cx SC G cX5_give RX5) {Acc : St → Prop} {B : Nat} (hB : isM B) (v1 : Int32) (v2 : Int32) (v3 : Int32) (v4 : Int32) (s : St) (hr : ∀ v : St, Acc v → RtV SC G cX5_give v) : JJ SC G Acc (f_Ma_give B v1 v2 v3 v4 s) 0 [(0, .ref (ad G B)), (1, .int v1), (2, .int v2), (3, .int v3), (4, .int v4)] [] s := by
  unfold f_Ma_give
  refine jr_aload_n C 0 rfl rfl dX5_give_0 ?_
  refine jr_getR C FX_5 5 (oM_0 hB).1 (oM_0 hB).2 ff_5_5.1 ff_5_5.2 (rM_0_5 _ hB) fl_X5_41 dX5_give_1 ?_
  refine jr_iload_n C 1 rfl rfl dX5_give_4 ?_
  refine jr_bipush C bp_7 dX5_give_5 ?_
  refine jr_iand C dX5_give_7 ?_
  refine jr_aald C (oM_25 hB).1 (oM_25 hB).2.1 (oM_25 hB).2.2 (fun _ => rM_r _ hB) dX5_give_8 (fun h1 => ?_)
  refine jr_astore C (lv' := [(5, .ref (ad G (B + 26 + ((v1 &&& 7) : Int32).toNatClampNeg))), (0, .ref (ad G B)), (1, .int v1), (2, .int v2), (3, .int v3), (4, .int v4)]) (ltL hL rfl) rfl dX5_give_9 ?_
  refine jr_iload_n C 2 rfl rfl dX5_give_11 ?_
  refine jr_bipush C bp_7 dX5_give_12 ?_
  refine jr_icmp_ne C (tgt := 62) dX5_give_14 (by decide) (fun h2 => ?_) (fun h2 => ?_)
  · refine jo_neg h2 ?_
    refine jr_lv [3, 4, 5, 0] rfl ?_
    exact t_Ma_give_J62 G hR hL C hB (dM_r hB h1) v2 v3 v4 s hr
  refine jo_pos h2 ?_
  refine jr_iload_n C 4 rfl rfl dX5_give_17 ?_
  refine jr_if_ne C (tgt := 35) dX5_give_18 (by decide) (fun h5 => ?_) (fun h5 => ?_)
  · refine jo_neg h5 ?_
    refine jr_lv [1] rfl ?_
    exact t_Ma_give_J35 G hR hL C hB  s hr
  refine jo_pos h5 ?_
  refine jr_iload_n C 3 rfl rfl dX5_give_21 ?_
  refine jr_sipush C sp_3072 dX5_give_22 ?_
  refine jr_icmp_lt C (tgt := 35) dX5_give_25 (by decide) (fun h8 => ?_) (fun h8 => ?_)
  · refine jo_pos h8 ?_
    refine jr_lv [1] rfl ?_
    exact t_Ma_give_J35 G hR hL C hB  s hr
  refine jo_neg h8 ?_
  refine jr_iload_n C 3 rfl rfl dX5_give_28 ?_
  refine jr_sipush C sp_4096 dX5_give_29 ?_
  refine jr_icmp_le C (tgt := 41) dX5_give_32 (by decide) (fun h9 => ?_) (fun h9 => ?_)
  · refine jo_pos h9 ?_
    refine jr_aload_n C 1 rfl rfl dX5_give_41 ?_
    refine jr_getR C FX_5 1 (oM_0 hB).1 (oM_0 hB).2 ff_5_1.1 ff_5_1.2 (rM_0_1 _ hB) fl_X5_12 dX5_give_42 ?_
    refine jr_aload C 0 rfl dX5_give_45 ?_
    refine jr_getI C FX_1 0 (oD (dM_r hB h1)).1 (oD (dM_r hB h1)).2 ff_1_0.1 ff_1_0.2 fl_X5_232 dX5_give_47 ?_
    refine jr_iload_n C 3 rfl rfl dX5_give_50 ?_
    refine jr_sipush C sp_512 dX5_give_51 ?_
    refine jr_aload_n C 1 rfl rfl dX5_give_54 ?_
    refine jr_getI C FX_5 9 (oM_0 hB).1 (oM_0 hB).2 ff_5_9.1 ff_5_9.2 fl_X5_108 dX5_give_55 ?_
    refine jr_iadd C dX5_give_58 ?_
    refine jr_bind (fun q10 e11 => ?_)
    refine jr_callVV C FX_6 km_X5_235 (oM_1 hB).1 (oM_1 hB).2 (rk hR rfl) (c_Me_moveStack (gl G) hB (s.1 (B + 26 + ((v1 &&& 7) : Int32).toNatClampNeg) 0) v2 (512 + (s.1 B 9)) s e11) rfl rfl rfl (Nat.le_of_ble_eq_true rfl) dX5_give_59 ?_
    refine jr_lv [3, 4, 5, 0] rfl ?_
    exact t_Ma_give_J62 G hR hL C hB (dM_r hB h1) v2 v3 v4 q10 hr
  refine jo_neg h9 ?_
  refine jr_lv [1] rfl ?_
  exact t_Ma_give_J35 G hR hL C hB  s hr
set_option maxRecDepth 100000 in
theorem c_Ma_give (l : Launch) {B : Nat} (hB : isM B) (v1 : Int32) (v2 : Int32) (v3 : Int32) (v4 : Int32) (s : St) {q : St} (h : f_Ma_give B v1 v2 v3 v4 s = some q) : CT SC l yX5_give cX5_give 6 none 3 74 (fun a => [.ref (a B), .int v1, .int v2, .int v3, .int v4]) s q (fun _ => none) :=
  ct_V okX_C (by decide) (fun _ => Nat.le_of_ble_eq_true rfl) (fun G hl hR hL C hr => t_Ma_give G hR hL C (Acc := fun v => v = q) hB v1 v2 v3 v4 s (fun v hv => by rw [hv]; exact hr) ⟨_, h, rfl⟩)
noncomputable def f_Ma_compute_J133 (B : Nat) (v2 : Int32) (s : St) : Option St :=
  (f_Ru_shade (B + 34) (B + 35) v2 (s.1 B 8) s).bind fun q12 =>
  (f_Ma_operand B 0 s).bind fun q14 =>
  (f_Ru_origin (B + 34) (B + 35) s).bind fun q16 =>
  (f_Ma_give B q14 (f_Ru_value v2 (s.1 (B + 34) 0) (s.1 (B + 35) 0)) q12 q16 s).bind fun q18 =>
  some q18
set_option maxHeartbeats 4000000 in
set_option maxRecDepth 100000 in
theorem t_Ma_compute_J133 (G : GG) (hR : gR G = rmx 4 99) (hL : gL G = 4) (C : Cx SC G cX5_compute RX5) {Acc : St → Prop} {B : Nat} (hB : isM B) (v2 : Int32) (s : St) (hr : ∀ v : St, Acc v → RtV SC G cX5_compute v) : JJ SC G Acc (f_Ma_compute_J133 B v2 s) 133 [(0, .ref (ad G B)), (2, .int v2)] [] s := by
  unfold f_Ma_compute_J133
  refine jr_iload_n C 1 rfl rfl dX5_compute_133 ?_
  refine jr_aload_n C 0 rfl rfl dX5_compute_134 ?_
  refine jr_getR C FX_5 6 (oM_0 hB).1 (oM_0 hB).2 ff_5_6.1 ff_5_6.2 (rM_0_6 _ hB) fl_X5_46 dX5_compute_135 ?_
  refine jr_aload_n C 0 rfl rfl dX5_compute_138 ?_
  refine jr_getR C FX_5 7 (oM_0 hB).1 (oM_0 hB).2 ff_5_7.1 ff_5_7.2 (rM_0_7 _ hB) fl_X5_50 dX5_compute_139 ?_
  refine jr_aload_n C 0 rfl rfl dX5_compute_142 ?_
  refine jr_getI C FX_5 8 (oM_0 hB).1 (oM_0 hB).2 ff_5_8.1 ff_5_8.2 fl_X5_64 dX5_compute_143 ?_
  refine jr_bind (fun q12 e13 => ?_)
  refine jr_callSI C km_X5_263 (rk hR rfl) (c_Ru_shade (gl G) (dM_34 hB) (dM_35 hB) v2 (s.1 B 8) s e13) rfl rfl rfl (Nat.le_of_ble_eq_true rfl) dX5_compute_146 ?_
  refine jr_istore_n C (lv' := [(3, .int q12), (0, .ref (ad G B)), (2, .int v2)]) (ltL hL rfl) rfl rfl dX5_compute_149 ?_
  refine jr_aload_n C 1 rfl rfl dX5_compute_150 ?_
  refine jr_aload_n C 1 rfl rfl dX5_compute_151 ?_
  refine jr_iconst C ic_0 dX5_compute_152 ?_
  refine jr_bind (fun q14 e15 => ?_)
  refine jr_callVI C FX_5 km_X5_209 (oM_0 hB).1 (oM_0 hB).2 (rk hR rfl) (c_Ma_operand (gl G) hB 0 s e15) rfl rfl rfl (Nat.le_of_ble_eq_true rfl) dX5_compute_153 ?_
  refine jr_iload_n C 2 rfl rfl dX5_compute_156 ?_
  refine jr_aload_n C 1 rfl rfl dX5_compute_157 ?_
  refine jr_getR C FX_5 6 (oM_0 hB).1 (oM_0 hB).2 ff_5_6.1 ff_5_6.2 (rM_0_6 _ hB) fl_X5_46 dX5_compute_158 ?_
  refine jr_getI C FX_1 0 (oD (dM_34 hB)).1 (oD (dM_34 hB)).2 ff_1_0.1 ff_1_0.2 fl_X5_232 dX5_compute_161 ?_
  refine jr_aload_n C 1 rfl rfl dX5_compute_164 ?_
  refine jr_getR C FX_5 7 (oM_0 hB).1 (oM_0 hB).2 ff_5_7.1 ff_5_7.2 (rM_0_7 _ hB) fl_X5_50 dX5_compute_165 ?_
  refine jr_getI C FX_1 0 (oD (dM_35 hB)).1 (oD (dM_35 hB)).2 ff_1_0.1 ff_1_0.2 fl_X5_232 dX5_compute_168 ?_
  refine jr_callSI C km_X5_268 (rk hR rfl) (c_Ru_value (gl G) v2 (s.1 (B + 34) 0) (s.1 (B + 35) 0) s) rfl rfl rfl (Nat.le_of_ble_eq_true rfl) dX5_compute_171 ?_
  refine jr_iload_n C 0 rfl rfl dX5_compute_174 ?_
  refine jr_aload_n C 1 rfl rfl dX5_compute_175 ?_
  refine jr_getR C FX_5 6 (oM_0 hB).1 (oM_0 hB).2 ff_5_6.1 ff_5_6.2 (rM_0_6 _ hB) fl_X5_46 dX5_compute_176 ?_
  refine jr_aload_n C 1 rfl rfl dX5_compute_179 ?_
  refine jr_getR C FX_5 7 (oM_0 hB).1 (oM_0 hB).2 ff_5_7.1 ff_5_7.2 (rM_0_7 _ hB) fl_X5_50 dX5_compute_180 ?_
  refine jr_bind (fun q16 e17 => ?_)
  refine jr_callSI C km_X5_272 (rk hR rfl) (c_Ru_origin (gl G) (dM_34 hB) (dM_35 hB) s e17) rfl rfl rfl (Nat.le_of_ble_eq_true rfl) dX5_compute_183 ?_
  refine jr_bind (fun q18 e19 => ?_)
  refine jr_callVV C FX_5 km_X5_275 (oM_0 hB).1 (oM_0 hB).2 (rk hR rfl) (c_Ma_give (gl G) hB q14 (f_Ru_value v2 (s.1 (B + 34) 0) (s.1 (B + 35) 0)) q12 q16 s e19) rfl rfl rfl (Nat.le_of_ble_eq_true rfl) dX5_compute_186 ?_
  exact jr_end (fun h => hr q18 h _ _ dX5_compute_189)
noncomputable def f_Ma_compute_J108 (B : Nat) (v2 : Int32) (s : St) : Option St :=
  (f_Ma_reportShade B (B + 35) 4 s).bind fun q9 =>
  if (q9.1 (B + 35) 0) = 0 then
  ((f_Ma_trap B 1 q9).bind fun q20 =>
  some q20)
  else
  f_Ma_compute_J133 B v2 q9
set_option maxHeartbeats 4000000 in
set_option maxRecDepth 100000 in
theorem t_Ma_compute_J108 (G : GG) (hR : gR G = rmx 4 99) (hL : gL G = 4) (C : Cx SC G cX5_compute RX5) {Acc : St → Prop} {B : Nat} (hB : isM B) (v2 : Int32) (s : St) (hr : ∀ v : St, Acc v → RtV SC G cX5_compute v) : JJ SC G Acc (f_Ma_compute_J108 B v2 s) 108 [(0, .ref (ad G B)), (2, .int v2)] [] s := by
  unfold f_Ma_compute_J108
  refine jr_aload_n C 0 rfl rfl dX5_compute_108 ?_
  refine jr_iconst C ic_4 dX5_compute_109 ?_
  refine jr_aload_n C 0 rfl rfl dX5_compute_110 ?_
  refine jr_getR C FX_5 7 (oM_0 hB).1 (oM_0 hB).2 ff_5_7.1 ff_5_7.2 (rM_0_7 _ hB) fl_X5_50 dX5_compute_111 ?_
  refine jr_bind (fun q9 e10 => ?_)
  refine jr_callVV C FX_5 km_X5_259 (oM_0 hB).1 (oM_0 hB).2 (rk hR rfl) (c_Ma_reportShade (gl G) hB (dM_35 hB) 4 s e10) rfl rfl rfl (Nat.le_of_ble_eq_true rfl) dX5_compute_114 ?_
  refine jr_aload_n C 0 rfl rfl dX5_compute_117 ?_
  refine jr_getR C FX_5 7 (oM_0 hB).1 (oM_0 hB).2 ff_5_7.1 ff_5_7.2 (rM_0_7 _ hB) fl_X5_50 dX5_compute_118 ?_
  refine jr_getI C FX_1 0 (oD (dM_35 hB)).1 (oD (dM_35 hB)).2 ff_1_0.1 ff_1_0.2 fl_X5_232 dX5_compute_121 ?_
  refine jr_if_ne C (tgt := 133) dX5_compute_124 (by decide) (fun h11 => ?_) (fun h11 => ?_)
  · refine jo_neg h11 ?_
    exact t_Ma_compute_J133 G hR hL C hB v2 q9 hr
  refine jo_pos h11 ?_
  refine jr_aload_n C 0 rfl rfl dX5_compute_127 ?_
  refine jr_iconst C ic_1 dX5_compute_128 ?_
  refine jr_bind (fun q20 e21 => ?_)
  refine jr_callVV C FX_5 km_X5_229 (oM_0 hB).1 (oM_0 hB).2 (rk hR rfl) (c_Ma_trap (gl G) hB 1 q9 e21) rfl rfl rfl (Nat.le_of_ble_eq_true rfl) dX5_compute_129 ?_
  exact jr_end (fun h => hr q20 h _ _ dX5_compute_132)
noncomputable def f_Ma_compute_J96 (B : Nat) (v1 : Int32) (v2 : Int32) (s : St) : Option St :=
  if v1 = 7 then
  f_Ma_compute_J108 B v2 s
  else
  if v1 = 8 then
  f_Ma_compute_J108 B v2 s
  else
  f_Ma_compute_J133 B v2 s
set_option maxHeartbeats 4000000 in
set_option maxRecDepth 100000 in
theorem t_Ma_compute_J96 (G : GG) (hR : gR G = rmx 4 99) (hL : gL G = 4) (C : Cx SC G cX5_compute RX5) {Acc : St → Prop} {B : Nat} (hB : isM B) (v1 : Int32) (v2 : Int32) (s : St) (hr : ∀ v : St, Acc v → RtV SC G cX5_compute v) : JJ SC G Acc (f_Ma_compute_J96 B v1 v2 s) 96 [(0, .ref (ad G B)), (1, .int v1), (2, .int v2)] [] s := by
  unfold f_Ma_compute_J96
  refine jr_iload_n C 1 rfl rfl dX5_compute_96 ?_
  refine jr_bipush C bp_7 dX5_compute_97 ?_
  refine jr_icmp_eq C (tgt := 108) dX5_compute_99 (by decide) (fun h8 => ?_) (fun h8 => ?_)
  · refine jo_pos h8 ?_
    refine jr_lv [0, 2] rfl ?_
    exact t_Ma_compute_J108 G hR hL C hB v2 s hr
  refine jo_neg h8 ?_
  refine jr_iload_n C 1 rfl rfl dX5_compute_102 ?_
  refine jr_bipush C bp_8 dX5_compute_103 ?_
  refine jr_icmp_ne C (tgt := 133) dX5_compute_105 (by decide) (fun h22 => ?_) (fun h22 => ?_)
  · refine jo_neg h22 ?_
    refine jr_lv [0, 2] rfl ?_
    exact t_Ma_compute_J133 G hR hL C hB v2 s hr
  refine jo_pos h22 ?_
  refine jr_lv [0, 2] rfl ?_
  exact t_Ma_compute_J108 G hR hL C hB v2 s hr
noncomputable def f_Ma_compute_J88 (B : Nat) (v1 : Int32) (v2 : Int32) (s : St) : Option St :=
  (f_Da_putSet (B + 35) 0 s).bind fun q6 =>
  f_Ma_compute_J96 B v1 v2 q6
set_option maxHeartbeats 4000000 in
set_option maxRecDepth 100000 in
theorem t_Ma_compute_J88 (G : GG) (hR : gR G = rmx 4 99) (hL : gL G = 4) (C : Cx SC G cX5_compute RX5) {Acc : St → Prop} {B : Nat} (hB : isM B) (v1 : Int32) (v2 : Int32) (s : St) (hr : ∀ v : St, Acc v → RtV SC G cX5_compute v) : JJ SC G Acc (f_Ma_compute_J88 B v1 v2 s) 88 [(0, .ref (ad G B)), (1, .int v1), (2, .int v2)] [] s := by
  unfold f_Ma_compute_J88
  refine jr_aload_n C 0 rfl rfl dX5_compute_88 ?_
  refine jr_getR C FX_5 7 (oM_0 hB).1 (oM_0 hB).2 ff_5_7.1 ff_5_7.2 (rM_0_7 _ hB) fl_X5_50 dX5_compute_89 ?_
  refine jr_iconst C ic_0 dX5_compute_92 ?_
  refine jr_bind (fun q6 e7 => ?_)
  refine jr_callVV C FX_1 km_X5_83 (oD (dM_35 hB)).1 (oD (dM_35 hB)).2 (rk hR rfl) (c_Da_putSet (gl G) (dM_35 hB) 0 s e7) rfl rfl rfl (Nat.le_of_ble_eq_true rfl) dX5_compute_93 ?_
  exact t_Ma_compute_J96 G hR hL C hB v1 v2 q6 hr
noncomputable def f_Ma_compute (B : Nat) (v1 : Int32) (s : St) : Option St :=
  if v1 = 0 then
  ((f_Ma_operand B 1 s).bind fun q30 =>
  (f_Da_putSet (B + 34) q30 s).bind fun q32 =>
  (f_Da_putSet (B + 35) 0 q32).bind fun q34 =>
  f_Ma_compute_J96 B v1 v1 q34)
  else
  if v1 = 3 then
  ((f_Da_putSet (B + 34) 0 s).bind fun q26 =>
  (f_Ma_takeRegister B (B + 35) 1 q26).bind fun q28 =>
  f_Ma_compute_J96 B v1 5 q28)
  else
  (f_Ma_takeRegister B (B + 34) 1 s).bind fun q3 =>
  if v1 < 4 then
  f_Ma_compute_J88 B v1 v1 q3
  else
  if 18 < v1 then
  f_Ma_compute_J88 B v1 v1 q3
  else
  (f_Ma_takeEither B (B + 35) 2 q3).bind fun q24 =>
  f_Ma_compute_J96 B v1 v1 q24
set_option maxHeartbeats 4000000 in
set_option maxRecDepth 100000 in
theorem t_Ma_compute (G : GG) (hR : gR G = rmx 4 99) (hL : gL G = 4) (C : Cx SC G cX5_compute RX5) {Acc : St → Prop} {B : Nat} (hB : isM B) (v1 : Int32) (s : St) (hr : ∀ v : St, Acc v → RtV SC G cX5_compute v) : JJ SC G Acc (f_Ma_compute B v1 s) 0 [(0, .ref (ad G B)), (1, .int v1)] [] s := by
  unfold f_Ma_compute
  refine jr_iload_n C 1 rfl rfl dX5_compute_0 ?_
  refine jr_istore_n C (lv' := [(2, .int v1), (0, .ref (ad G B)), (1, .int v1)]) (ltL hL rfl) rfl rfl dX5_compute_1 ?_
  refine jr_iload_n C 2 rfl rfl dX5_compute_2 ?_
  refine jr_if_ne C (tgt := 29) dX5_compute_3 (by decide) (fun h1 => ?_) (fun h1 => ?_)
  · refine jo_neg h1 ?_
    refine jr_iload_n C 2 rfl rfl dX5_compute_29 ?_
    refine jr_iconst C ic_3 dX5_compute_30 ?_
    refine jr_icmp_ne C (tgt := 56) dX5_compute_31 (by decide) (fun h2 => ?_) (fun h2 => ?_)
    · refine jo_neg h2 ?_
      refine jr_aload_n C 1 rfl rfl dX5_compute_56 ?_
      refine jr_aload_n C 1 rfl rfl dX5_compute_57 ?_
      refine jr_getR C FX_5 6 (oM_0 hB).1 (oM_0 hB).2 ff_5_6.1 ff_5_6.2 (rM_0_6 _ hB) fl_X5_46 dX5_compute_58 ?_
      refine jr_iconst C ic_1 dX5_compute_61 ?_
      refine jr_bind (fun q3 e4 => ?_)
      refine jr_callVV C FX_5 km_X5_225 (oM_0 hB).1 (oM_0 hB).2 (rk hR rfl) (c_Ma_takeRegister (gl G) hB (dM_34 hB) 1 s e4) rfl rfl rfl (Nat.le_of_ble_eq_true rfl) dX5_compute_62 ?_
      refine jr_iload_n C 2 rfl rfl dX5_compute_65 ?_
      refine jr_iconst C ic_4 dX5_compute_66 ?_
      refine jr_icmp_lt C (tgt := 88) dX5_compute_67 (by decide) (fun h5 => ?_) (fun h5 => ?_)
      · refine jo_pos h5 ?_
        refine jr_lv [1, 2, 0] rfl ?_
        exact t_Ma_compute_J88 G hR hL C hB v1 v1 q3 hr
      refine jo_neg h5 ?_
      refine jr_iload_n C 2 rfl rfl dX5_compute_70 ?_
      refine jr_bipush C bp_18 dX5_compute_71 ?_
      refine jr_icmp_gt C (tgt := 88) dX5_compute_73 (by decide) (fun h23 => ?_) (fun h23 => ?_)
      · refine jo_pos h23 ?_
        refine jr_lv [1, 2, 0] rfl ?_
        exact t_Ma_compute_J88 G hR hL C hB v1 v1 q3 hr
      refine jo_neg h23 ?_
      refine jr_aload_n C 1 rfl rfl dX5_compute_76 ?_
      refine jr_aload_n C 1 rfl rfl dX5_compute_77 ?_
      refine jr_getR C FX_5 7 (oM_0 hB).1 (oM_0 hB).2 ff_5_7.1 ff_5_7.2 (rM_0_7 _ hB) fl_X5_50 dX5_compute_78 ?_
      refine jr_iconst C ic_2 dX5_compute_81 ?_
      refine jr_bind (fun q24 e25 => ?_)
      refine jr_callVV C FX_5 km_X5_256 (oM_0 hB).1 (oM_0 hB).2 (rk hR rfl) (c_Ma_takeEither (gl G) hB (dM_35 hB) 2 q3 e25) rfl rfl rfl (Nat.le_of_ble_eq_true rfl) dX5_compute_82 ?_
      refine jr_goto C (tgt := 96) dX5_compute_85 (by decide) ?_
      refine jr_lv [1, 2, 0] rfl ?_
      exact t_Ma_compute_J96 G hR hL C hB v1 v1 q24 hr
    refine jo_pos h2 ?_
    refine jr_aload_n C 1 rfl rfl dX5_compute_34 ?_
    refine jr_getR C FX_5 6 (oM_0 hB).1 (oM_0 hB).2 ff_5_6.1 ff_5_6.2 (rM_0_6 _ hB) fl_X5_46 dX5_compute_35 ?_
    refine jr_iconst C ic_0 dX5_compute_38 ?_
    refine jr_bind (fun q26 e27 => ?_)
    refine jr_callVV C FX_1 km_X5_83 (oD (dM_34 hB)).1 (oD (dM_34 hB)).2 (rk hR rfl) (c_Da_putSet (gl G) (dM_34 hB) 0 s e27) rfl rfl rfl (Nat.le_of_ble_eq_true rfl) dX5_compute_39 ?_
    refine jr_aload_n C 1 rfl rfl dX5_compute_42 ?_
    refine jr_aload_n C 1 rfl rfl dX5_compute_43 ?_
    refine jr_getR C FX_5 7 (oM_0 hB).1 (oM_0 hB).2 ff_5_7.1 ff_5_7.2 (rM_0_7 _ hB) fl_X5_50 dX5_compute_44 ?_
    refine jr_iconst C ic_1 dX5_compute_47 ?_
    refine jr_bind (fun q28 e29 => ?_)
    refine jr_callVV C FX_5 km_X5_225 (oM_0 hB).1 (oM_0 hB).2 (rk hR rfl) (c_Ma_takeRegister (gl G) hB (dM_35 hB) 1 q26 e29) rfl rfl rfl (Nat.le_of_ble_eq_true rfl) dX5_compute_48 ?_
    refine jr_iconst C ic_5 dX5_compute_51 ?_
    refine jr_istore_n C (lv' := [(2, .int 5), (0, .ref (ad G B)), (1, .int v1)]) (ltL hL rfl) rfl rfl dX5_compute_52 ?_
    refine jr_goto C (tgt := 96) dX5_compute_53 (by decide) ?_
    refine jr_lv [1, 2, 0] rfl ?_
    exact t_Ma_compute_J96 G hR hL C hB v1 5 q28 hr
  refine jo_pos h1 ?_
  refine jr_aload_n C 1 rfl rfl dX5_compute_6 ?_
  refine jr_getR C FX_5 6 (oM_0 hB).1 (oM_0 hB).2 ff_5_6.1 ff_5_6.2 (rM_0_6 _ hB) fl_X5_46 dX5_compute_7 ?_
  refine jr_aload_n C 1 rfl rfl dX5_compute_10 ?_
  refine jr_iconst C ic_1 dX5_compute_11 ?_
  refine jr_bind (fun q30 e31 => ?_)
  refine jr_callVI C FX_5 km_X5_209 (oM_0 hB).1 (oM_0 hB).2 (rk hR rfl) (c_Ma_operand (gl G) hB 1 s e31) rfl rfl rfl (Nat.le_of_ble_eq_true rfl) dX5_compute_12 ?_
  refine jr_bind (fun q32 e33 => ?_)
  refine jr_callVV C FX_1 km_X5_83 (oD (dM_34 hB)).1 (oD (dM_34 hB)).2 (rk hR rfl) (c_Da_putSet (gl G) (dM_34 hB) q30 s e33) rfl rfl rfl (Nat.le_of_ble_eq_true rfl) dX5_compute_15 ?_
  refine jr_aload_n C 1 rfl rfl dX5_compute_18 ?_
  refine jr_getR C FX_5 7 (oM_0 hB).1 (oM_0 hB).2 ff_5_7.1 ff_5_7.2 (rM_0_7 _ hB) fl_X5_50 dX5_compute_19 ?_
  refine jr_iconst C ic_0 dX5_compute_22 ?_
  refine jr_bind (fun q34 e35 => ?_)
  refine jr_callVV C FX_1 km_X5_83 (oD (dM_35 hB)).1 (oD (dM_35 hB)).2 (rk hR rfl) (c_Da_putSet (gl G) (dM_35 hB) 0 q32 e35) rfl rfl rfl (Nat.le_of_ble_eq_true rfl) dX5_compute_23 ?_
  refine jr_goto C (tgt := 96) dX5_compute_26 (by decide) ?_
  refine jr_lv [1, 2, 0] rfl ?_
  exact t_Ma_compute_J96 G hR hL C hB v1 v1 q34 hr
set_option maxRecDepth 100000 in
theorem c_Ma_compute (l : Launch) {B : Nat} (hB : isM B) (v1 : Int32) (s : St) {q : St} (h : f_Ma_compute B v1 s = some q) : CT SC l yX5_compute cX5_compute 4 none 4 99 (fun a => [.ref (a B), .int v1]) s q (fun _ => none) :=
  ct_V okX_C (by decide) (fun _ => Nat.le_of_ble_eq_true rfl) (fun G hl hR hL C hr => t_Ma_compute G hR hL C (Acc := fun v => v = q) hB v1 s (fun v hv => by rw [hv]; exact hr) ⟨_, h, rfl⟩)
