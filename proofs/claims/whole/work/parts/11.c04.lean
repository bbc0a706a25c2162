noncomputable def f_Ma_widthOf (v0 : Int32) : Int32 :=
  if v0 = 21 then
  1
  else if v0 = 22 then
  1
  else if v0 = 23 then
  2
  else if v0 = 24 then
  2
  else if v0 = 25 then
  4
  else if v0 = 26 then
  1
  else if v0 = 27 then
  2
  else 4
set_option maxHeartbeats 4000000 in
set_option maxRecDepth 100000 in
theorem t_Ma_widthOf (G : GG) (hR : gR G = rmx 0 0) (hL : gL G = 1) (C : Cx SC G cX5_widthOf RX5) {Acc : Int32 → Prop} {B : Nat} (hB : isM B) (v0 : Int32) (s : St) (hr : ∀ v : Int32, Acc v → RtI SC G cX5_widthOf v s) : JJ SC G Acc (some (f_Ma_widthOf v0)) 0 [(0, .int v0)] [] s := by
  unfold f_Ma_widthOf
  refine jr_iload_n C 0 rfl rfl dX5_widthOf_0 ?_
  refine jo_casesP (fun h1 => ?_) (fun h1 => ?_)
  · refine jr_tabIn C dX5_widthOf_1 h1 (by decide) (by decide) rfl (tgt := 44) (by decide) ?_
    refine jr_iconst C ic_1 dX5_widthOf_44 ?_
    exact jr_end (fun h => hr 1 h _ _ dX5_widthOf_45)
  refine jo_casesP (fun h2 => ?_) (fun h2 => ?_)
  · refine jr_tabIn C dX5_widthOf_1 h2 (by decide) (by decide) rfl (tgt := 44) (by decide) ?_
    refine jr_iconst C ic_1 dX5_widthOf_44 ?_
    exact jr_end (fun h => hr 1 h _ _ dX5_widthOf_45)
  refine jo_casesP (fun h3 => ?_) (fun h3 => ?_)
  · refine jr_tabIn C dX5_widthOf_1 h3 (by decide) (by decide) rfl (tgt := 46) (by decide) ?_
    refine jr_iconst C ic_2 dX5_widthOf_46 ?_
    exact jr_end (fun h => hr 2 h _ _ dX5_widthOf_47)
  refine jo_casesP (fun h4 => ?_) (fun h4 => ?_)
  · refine jr_tabIn C dX5_widthOf_1 h4 (by decide) (by decide) rfl (tgt := 46) (by decide) ?_
    refine jr_iconst C ic_2 dX5_widthOf_46 ?_
    exact jr_end (fun h => hr 2 h _ _ dX5_widthOf_47)
  refine jo_casesP (fun h5 => ?_) (fun h5 => ?_)
  · refine jr_tabIn C dX5_widthOf_1 h5 (by decide) (by decide) rfl (tgt := 48) (by decide) ?_
    refine jr_iconst C ic_4 dX5_widthOf_48 ?_
    exact jr_end (fun h => hr 4 h _ _ dX5_widthOf_49)
  refine jo_casesP (fun h6 => ?_) (fun h6 => ?_)
  · refine jr_tabIn C dX5_widthOf_1 h6 (by decide) (by decide) rfl (tgt := 44) (by decide) ?_
    refine jr_iconst C ic_1 dX5_widthOf_44 ?_
    exact jr_end (fun h => hr 1 h _ _ dX5_widthOf_45)
  refine jo_casesP (fun h7 => ?_) (fun h7 => ?_)
  · refine jr_tabIn C dX5_widthOf_1 h7 (by decide) (by decide) rfl (tgt := 46) (by decide) ?_
    refine jr_iconst C ic_2 dX5_widthOf_46 ?_
    exact jr_end (fun h => hr 2 h _ _ dX5_widthOf_47)
  refine jr_tabOut C dX5_widthOf_1 (by have e0 := lv_neT h1 (a := 21) (by decide); have e1 := lv_neT h2 (a := 22) (by decide); have e2 := lv_neT h3 (a := 23) (by decide); have e3 := lv_neT h4 (a := 24) (by decide); have e4 := lv_neT h5 (a := 25) (by decide); have e5 := lv_neT h6 (a := 26) (by decide); have e6 := lv_neT h7 (a := 27) (by decide); omega) (tgt := 48) (by decide) ?_
  refine jr_iconst C ic_4 dX5_widthOf_48 ?_
  exact jr_end (fun h => hr 4 h _ _ dX5_widthOf_49)
set_option maxRecDepth 100000 in
theorem c_Ma_widthOf (l : Launch) {B : Nat} (hB : isM B) (v0 : Int32) (s : St) : CT SC l yX5_widthOf cX5_widthOf 1 (some .int) 0 0 (fun a => [.int v0]) s s (fun _ => some (.int (f_Ma_widthOf v0))) :=
  ct_I okX_C (by decide) (fun _ => Nat.le_of_ble_eq_true rfl) (fun G hl hR hL C hr => t_Ma_widthOf G hR hL C (Acc := fun v => v = (f_Ma_widthOf v0)) hB v0 s (fun v hv => by rw [hv]; exact hr) ⟨_, rfl, rfl⟩)
noncomputable def f_Me_firstClosed_L2 (B : Nat) (v1 : Int32) (v2 : Int32) (v3 : Int32) (s : St) : Option (Int32 ⊕ (Int32 ⊕ Int32)) :=
  if v2 ≤ v3 then
  some (.inr (.inl v3))
  else
  if (f_Me_isByte (v1 + v3)) = 0 then
  some (.inr (.inr v3))
  else
  gd (v1 + v3) 4096 <|
  if (s.1 (B + 5) ((v1 + v3) : Int32).toNatClampNeg) = 0 then
  some (.inr (.inr v3))
  else
  some (.inl (v3 + 1))
set_option maxHeartbeats 4000000 in
set_option maxRecDepth 100000 in
theorem t_Me_firstClosed_L2 (G : GG) (hR : gR G = rmx 1 20) (hL : gL G = 4) (C : Cx SC G cX6_firstClosed RX6) {Acc : (Int32 ⊕ (Int32 ⊕ Int32)) → Prop} {B : Nat} (hB : isM B) (v1 : Int32) (v2 : Int32) (v3 : Int32) (s : St) (hb1 : ∀ (a3 : Int32), Acc (.inl a3) → KK SC G 2 [(0, .ref (ad G (B + 1))), (1, .int v1), (2, .int v2), (3, .int a3)] [] s) (hx1 : ∀ (a3 : Int32), Acc (.inr (.inl a3)) → KK SC G 35 [(0, .ref (ad G (B + 1))), (1, .int v1), (2, .int v2), (3, .int a3)] [] s) (hr : ∀ v : Int32, Acc (.inr (.inr v)) → RtI SC G cX6_firstClosed v s) : JJ SC G Acc (f_Me_firstClosed_L2 B v1 v2 v3 s) 2 [(0, .ref (ad G (B + 1))), (1, .int v1), (2, .int v2), (3, .int v3)] [] s := by
  unfold f_Me_firstClosed_L2
  refine jr_iload_n C 3 rfl rfl dX6_firstClosed_2 ?_
  refine jr_iload_n C 2 rfl rfl dX6_firstClosed_3 ?_
  refine jr_icmp_ge C (tgt := 35) dX6_firstClosed_4 (by decide) (fun h1 => ?_) (fun h1 => ?_)
  · refine jo_pos h1 ?_
    exact jr_end (fun h => hx1 v3 h)
  refine jo_neg h1 ?_
  refine jr_iload_n C 1 rfl rfl dX6_firstClosed_7 ?_
  refine jr_iload_n C 3 rfl rfl dX6_firstClosed_8 ?_
  refine jr_iadd C dX6_firstClosed_9 ?_
  refine jr_callSI C km_X6_35 (rk hR rfl) (c_Me_isByte (gl G) isM_20 (v1 + v3) s) rfl rfl rfl (Nat.le_of_ble_eq_true rfl) dX6_firstClosed_10 ?_
  refine jr_if_eq C (tgt := 27) dX6_firstClosed_13 (by decide) (fun h2 => ?_) (fun h2 => ?_)
  · refine jo_pos h2 ?_
    refine jr_iload_n C 3 rfl rfl dX6_firstClosed_27 ?_
    exact jr_end (fun h => hr v3 h _ _ dX6_firstClosed_28)
  refine jo_neg h2 ?_
  refine jr_aload_n C 0 rfl rfl dX6_firstClosed_16 ?_
  refine jr_getR C FX_6 3 (oM_1 hB).1 (oM_1 hB).2 ff_6_3.1 ff_6_3.2 (rM_1_3 _ hB) fl_X6_21 dX6_firstClosed_17 ?_
  refine jr_iload_n C 1 rfl rfl dX6_firstClosed_20 ?_
  refine jr_iload_n C 3 rfl rfl dX6_firstClosed_21 ?_
  refine jr_iadd C dX6_firstClosed_22 ?_
  refine jr_zald C (oM_5 hB).1 (oM_5 hB).2.1 (oM_5 hB).2.2 dX6_firstClosed_23 ?_
  refine jr_if_ne C (tgt := 29) dX6_firstClosed_24 (by decide) (fun h3 => ?_) (fun h3 => ?_)
  · refine jo_neg h3 ?_
    refine jr_iinc C 3 rfl ii_1 (lv' := [(3, .int (v3 + 1)), (0, .ref (ad G (B + 1))), (1, .int v1), (2, .int v2)]) (ltL hL rfl) rfl dX6_firstClosed_29 ?_
    refine jr_goto C (tgt := 2) dX6_firstClosed_32 (by decide) ?_
    refine jr_lv [1, 2, 3, 0] rfl ?_
    exact jr_end (fun h => hb1 (v3 + 1) h)
  refine jo_pos h3 ?_
  refine jr_iload_n C 3 rfl rfl dX6_firstClosed_27 ?_
  exact jr_end (fun h => hr v3 h _ _ dX6_firstClosed_28)
noncomputable def f_Me_firstClosed (B : Nat) (v1 : Int32) (v2 : Int32) (s : St) : Option Int32 :=
  (wh (fun a : Int32 => f_Me_firstClosed_L2 B v1 v2 a s) 0).bind (Sum.elim (fun b4 =>
  some (-1)) some)
set_option maxHeartbeats 4000000 in
set_option maxRecDepth 100000 in
theorem t_Me_firstClosed (G : GG) (hR : gR G = rmx 1 20) (hL : gL G = 4) (C : Cx SC G cX6_firstClosed RX6) {Acc : Int32 → Prop} {B : Nat} (hB : isM B) (v1 : Int32) (v2 : Int32) (s : St) (hr : ∀ v : Int32, Acc v → RtI SC G cX6_firstClosed v s) : JJ SC G Acc (f_Me_firstClosed B v1 v2 s) 0 [(0, .ref (ad G (B + 1))), (1, .int v1), (2, .int v2)] [] s := by
  unfold f_Me_firstClosed
  refine jr_iconst C ic_0 dX6_firstClosed_0 ?_
  refine jr_istore_n C (lv' := [(3, .int 0), (0, .ref (ad G (B + 1))), (1, .int v1), (2, .int v2)]) (ltL hL rfl) rfl rfl dX6_firstClosed_1 ?_
  refine jr_lv [1, 2, 3, 0] rfl ?_
  refine jr_loopE (pc := 2) (pcx := 35) (f := fun a : Int32 => f_Me_firstClosed_L2 B v1 v2 a s) (fun a : Int32 => [(0, .ref (ad G (B + 1))), (1, .int v1), (2, .int v2), (3, .int a)]) (fun a : Int32 => s) 0 (fun a => t_Me_firstClosed_L2 G hR hL C hB v1 v2 a s (fun _ h => h) (fun _ h => h) hr) (fun b4 => ?_)
  refine jr_iconst C ic_m1 dX6_firstClosed_35 ?_
  exact jr_end (fun h => hr (-1) h _ _ dX6_firstClosed_36)
set_option maxRecDepth 100000 in
theorem c_Me_firstClosed (l : Launch) {B : Nat} (hB : isM B) (v1 : Int32) (v2 : Int32) (s : St) {q : Int32} (h : f_Me_firstClosed B v1 v2 s = some q) : CT SC l yX6_firstClosed cX6_firstClosed 4 (some .int) 1 20 (fun a => [.ref (a (B + 1)), .int v1, .int v2]) s s (fun _ => some (.int q)) :=
  ct_I okX_C (by decide) (fun _ => Nat.le_of_ble_eq_true rfl) (fun G hl hR hL C hr => t_Me_firstClosed G hR hL C (Acc := fun v => v = q) hB v1 v2 s (fun v hv => by rw [hv]; exact hr) ⟨_, h, rfl⟩)
noncomputable def f_He_ownerOf (B : Nat) (v1 : Int32) (s : St) : Option Int32 :=
  if v1 < 1024 then
  some 0
  else
  if v1 < 3072 then
  (gd ((v1 - 1024) / 8) 256 <|
  some (s.1 (B + 12) (((v1 - 1024) / 8) : Int32).toNatClampNeg))
  else
  some 0
set_option maxHeartbeats 4000000 in
set_option maxRecDepth 100000 in
theorem t_He_ownerOf (G : GG) (hR : gR G = rmx 0 0) (hL : gL G = 2) (C : Cx SC G cX2_ownerOf RX2) {Acc : Int32 → Prop} {B : Nat} (hB : isM B) (v1 : Int32) (s : St) (hr : ∀ v : Int32, Acc v → RtI SC G cX2_ownerOf v s) : JJ SC G Acc (f_He_ownerOf B v1 s) 0 [(0, .ref (ad G (B + 6))), (1, .int v1)] [] s := by
  unfold f_He_ownerOf
  refine jr_iload_n C 1 rfl rfl dX2_ownerOf_0 ?_
  refine jr_sipush C sp_1024 dX2_ownerOf_1 ?_
  refine jr_icmp_lt C (tgt := 14) dX2_ownerOf_4 (by decide) (fun h1 => ?_) (fun h1 => ?_)
  · refine jo_pos h1 ?_
    refine jr_iconst C ic_0 dX2_ownerOf_14 ?_
    exact jr_end (fun h => hr 0 h _ _ dX2_ownerOf_15)
  refine jo_neg h1 ?_
  refine jr_iload_n C 1 rfl rfl dX2_ownerOf_7 ?_
  refine jr_sipush C sp_3072 dX2_ownerOf_8 ?_
  refine jr_icmp_lt C (tgt := 16) dX2_ownerOf_11 (by decide) (fun h2 => ?_) (fun h2 => ?_)
  · refine jo_pos h2 ?_
    refine jr_aload_n C 0 rfl rfl dX2_ownerOf_16 ?_
    refine jr_getR C FX_2 6 (oM_6 hB).1 (oM_6 hB).2 ff_2_6.1 ff_2_6.2 (rM_6_6 _ hB) fl_X2_27 dX2_ownerOf_17 ?_
    refine jr_iload_n C 1 rfl rfl dX2_ownerOf_20 ?_
    refine jr_sipush C sp_1024 dX2_ownerOf_21 ?_
    refine jr_isub C dX2_ownerOf_24 ?_
    refine jr_bipush C bp_8 dX2_ownerOf_25 ?_
    refine jr_idiv C (by decide) dX2_ownerOf_27 ?_
    refine jr_iald C (oM_12 hB).1 (oM_12 hB).2.1 (oM_12 hB).2.2 dX2_ownerOf_28 ?_
    exact jr_end (fun h => hr (s.1 (B + 12) (((v1 - 1024) / 8) : Int32).toNatClampNeg) h _ _ dX2_ownerOf_29)
  refine jo_neg h2 ?_
  refine jr_iconst C ic_0 dX2_ownerOf_14 ?_
  exact jr_end (fun h => hr 0 h _ _ dX2_ownerOf_15)
set_option maxRecDepth 100000 in
theorem c_He_ownerOf (l : Launch) {B : Nat} (hB : isM B) (v1 : Int32) (s : St) {q : Int32} (h : f_He_ownerOf B v1 s = some q) : CT SC l yX2_ownerOf cX2_ownerOf 2 (some .int) 0 0 (fun a => [.ref (a (B + 6)), .int v1]) s s (fun _ => some (.int q)) :=
  ct_I okX_C (by decide) (fun _ => Nat.le_of_ble_eq_true rfl) (fun G hl hR hL C hr => t_He_ownerOf G hR hL C (Acc := fun v => v = q) hB v1 s (fun v hv => by rw [hv]; exact hr) ⟨_, h, rfl⟩)
noncomputable def f_Ma_isValid (B : Nat) (v1 : Int32) (v2 : Int32) (s : St) : Option (Int32 × St) :=
  (f_Me_firstClosed B v1 v2 s).bind fun q1 =>
  if q1 = (-1) then
  some (1, s)
  else
  (f_He_ownerOf B (v1 + q1) s).bind fun q4 =>
  (f_Lg_note B 6 (s.1 B 9) q4 s).bind fun q6 =>
  some (0, q6)
set_option maxHeartbeats 4000000 in
set_option maxRecDepth 100000 in
theorem t_Ma_isValid (G : GG) (hR : gR G = rmx 2 48) (hL : gL G = 4) (C : Cx SC G cX5_isValid RX5) {Acc : (Int32 × St) → Prop} {B : Nat} (hB : isM B) (v1 : Int32) (v2 : Int32) (s : St) (hr : ∀ v : (Int32 × St), Acc v → RtZ SC G cX5_isValid v.1 v.2) : JJ SC G Acc (f_Ma_isValid B v1 v2 s) 0 [(0, .ref (ad G B)), (1, .int v1), (2, .int v2)] [] s := by
  unfold f_Ma_isValid
  refine jr_aload_n C 0 rfl rfl dX5_isValid_0 ?_
  refine jr_getR C FX_5 1 (oM_0 hB).1 (oM_0 hB).2 ff_5_1.1 ff_5_1.2 (rM_0_1 _ hB) fl_X5_12 dX5_isValid_1 ?_
  refine jr_iload_n C 1 rfl rfl dX5_isValid_4 ?_
  refine jr_iload_n C 2 rfl rfl dX5_isValid_5 ?_
  refine jr_bind (fun q1 e2 => ?_)
  refine jr_callVI C FX_6 km_X5_250 (oM_1 hB).1 (oM_1 hB).2 (rk hR rfl) (c_Me_firstClosed (gl G) hB v1 v2 s e2) rfl rfl rfl (Nat.le_of_ble_eq_true rfl) dX5_isValid_6 ?_
  refine jr_istore_n C (lv' := [(3, .int q1), (0, .ref (ad G B)), (1, .int v1), (2, .int v2)]) (ltL hL rfl) rfl rfl dX5_isValid_9 ?_
  refine jr_iload_n C 0 rfl rfl dX5_isValid_10 ?_
  refine jr_iconst C ic_m1 dX5_isValid_11 ?_
  refine jr_icmp_ne C (tgt := 17) dX5_isValid_12 (by decide) (fun h3 => ?_) (fun h3 => ?_)
  · refine jo_neg h3 ?_
    refine jr_aload_n C 1 rfl rfl dX5_isValid_17 ?_
    refine jr_getR C FX_5 4 (oM_0 hB).1 (oM_0 hB).2 ff_5_4.1 ff_5_4.2 (rM_0_4 _ hB) fl_X5_35 dX5_isValid_18 ?_
    refine jr_bipush C bp_6 dX5_isValid_21 ?_
    refine jr_aload_n C 1 rfl rfl dX5_isValid_23 ?_
    refine jr_getI C FX_5 9 (oM_0 hB).1 (oM_0 hB).2 ff_5_9.1 ff_5_9.2 fl_X5_108 dX5_isValid_24 ?_
    refine jr_aload_n C 1 rfl rfl dX5_isValid_27 ?_
    refine jr_getR C FX_5 2 (oM_0 hB).1 (oM_0 hB).2 ff_5_2.1 ff_5_2.2 (rM_0_2 _ hB) fl_X5_21 dX5_isValid_28 ?_
    refine jr_iload_n C 2 rfl rfl dX5_isValid_31 ?_
    refine jr_iload_n C 0 rfl rfl dX5_isValid_32 ?_
    refine jr_iadd C dX5_isValid_33 ?_
    refine jr_bind (fun q4 e5 => ?_)
    refine jr_callVI C FX_2 km_X5_253 (oM_6 hB).1 (oM_6 hB).2 (rk hR rfl) (c_He_ownerOf (gl G) hB (v1 + q1) s e5) rfl rfl rfl (Nat.le_of_ble_eq_true rfl) dX5_isValid_34 ?_
    refine jr_bind (fun q6 e7 => ?_)
    refine jr_callVV C FX_4 km_X5_247 (oM_17 hB).1 (oM_17 hB).2 (rk hR rfl) (c_Lg_note (gl G) hB 6 (s.1 B 9) q4 s e7) rfl rfl rfl (Nat.le_of_ble_eq_true rfl) dX5_isValid_37 ?_
    refine jr_iconst C ic_0 dX5_isValid_40 ?_
    exact jr_end (fun h => hr (0, q6) h _ _ _ bN0 dX5_isValid_41)
  refine jo_pos h3 ?_
  refine jr_iconst C ic_1 dX5_isValid_15 ?_
  exact jr_end (fun h => hr (1, s) h _ _ _ bN1 dX5_isValid_16)
set_option maxRecDepth 100000 in
theorem c_Ma_isValid (l : Launch) {B : Nat} (hB : isM B) (v1 : Int32) (v2 : Int32) (s : St) {q : (Int32 × St)} (h : f_Ma_isValid B v1 v2 s = some q) : CT SC l yX5_isValid cX5_isValid 4 (some .boolean) 2 48 (fun a => [.ref (a B), .int v1, .int v2]) s q.2 (fun _ => some (.int q.1)) :=
  ct_Z okX_C (by decide) (fun _ => Nat.le_of_ble_eq_true rfl) (fun G hl hR hL C hr => t_Ma_isValid G hR hL C (Acc := fun v => v = q) hB v1 v2 s (fun v hv => by rw [hv]; exact hr) ⟨_, h, rfl⟩)
noncomputable def f_Me_readInto_J74_1 (B : Nat) (o1 : Nat) (v2 : Int32) (v4 : Int32) (v5 : Int32) (v6 : Int32) (v7 : Int32) (s : St) : Option ((Int32 × Int32 × Int32 × Int32) ⊕ (Int32 × Int32 × Int32 × Int32)) :=
  some (.inl (v4, v5, v6, (v7 + (-1))))
set_option maxHeartbeats 4000000 in
set_option maxRecDepth 100000 in
theorem t_Me_readInto_J74_1 (G : GG) (hR : gR G = rmx 1 23) (hL : gL G = 9) (C : Cx SC G cX6_readInto RX6) {Acc : ((Int32 × Int32 × Int32 × Int32) ⊕ (Int32 × Int32 × Int32 × Int32)) → Prop} {B : Nat} (hB : isM B) {o1 : Nat} (ho1 : isD o1) (v2 : Int32) (v4 : Int32) (v5 : Int32) (v6 : Int32) (v7 : Int32) (s : St) (hb1 : ∀ (a4 : Int32) (a5 : Int32) (a6 : Int32) (a7 : Int32), Acc (.inl (a4, a5, a6, a7)) → KK SC G 14 [(0, .ref (ad G (B + 1))), (1, .ref (ad G o1)), (2, .int v2), (4, .int a4), (5, .int a5), (6, .int a6), (7, .int a7)] [] s) (hx1 : ∀ (a4 : Int32) (a5 : Int32) (a6 : Int32) (a7 : Int32), Acc (.inr (a4, a5, a6, a7)) → KK SC G 80 [(0, .ref (ad G (B + 1))), (1, .ref (ad G o1)), (2, .int v2), (4, .int a4), (5, .int a5), (6, .int a6), (7, .int a7)] [] s) : JJ SC G Acc (f_Me_readInto_J74_1 B o1 v2 v4 v5 v6 v7 s) 74 [(0, .ref (ad G (B + 1))), (1, .ref (ad G o1)), (2, .int v2), (4, .int v4), (5, .int v5), (6, .int v6), (7, .int v7)] [] s := by
  unfold f_Me_readInto_J74_1
  refine jr_iinc C 6 rfl ii_m1 (lv' := [(7, .int (v7 + (-1))), (0, .ref (ad G (B + 1))), (1, .ref (ad G o1)), (2, .int v2), (4, .int v4), (5, .int v5), (6, .int v6)]) (ltL hL rfl) rfl dX6_readInto_74 ?_
  refine jr_goto C (tgt := 14) dX6_readInto_77 (by decide) ?_
  refine jr_lv [1, 2, 3, 4, 5, 6, 0] rfl ?_
  exact jr_end (fun h => hb1 v4 v5 v6 (v7 + (-1)) h)
noncomputable def f_Me_readInto_L14 (B : Nat) (o1 : Nat) (v2 : Int32) (v4 : Int32) (v5 : Int32) (v6 : Int32) (v7 : Int32) (s : St) : Option ((Int32 × Int32 × Int32 × Int32) ⊕ (Int32 × Int32 × Int32 × Int32)) :=
  if v7 < 0 then
  some (.inr (v4, v5, v6, v7))
  else
  lt (v2 + v7) fun x3 =>
  gd x3 4096 <|
  lt ((v4 <<< (8 &&& 31)) ||| (s.1 (B + 2) (x3 : Int32).toNatClampNeg)) fun x4 =>
  gd x3 4096 <|
  lt ((v5 <<< (8 &&& 31)) ||| (s.1 (B + 3) (x3 : Int32).toNatClampNeg)) fun x5 =>
  gd x3 4096 <|
  if (s.1 (B + 3) (x3 : Int32).toNatClampNeg) = 0 then
  f_Me_readInto_J74_1 B o1 v2 x4 x5 v6 v7 s
  else
  gd x3 4096 <|
  lt (s.1 (B + 4) (x3 : Int32).toNatClampNeg) fun x7 =>
  f_Me_readInto_J74_1 B o1 v2 x4 x5 x7 v7 s
set_option maxHeartbeats 4000000 in
set_option maxRecDepth 100000 in
theorem t_Me_readInto_L14 (G : GG) (hR : gR G = rmx 1 23) (hL : gL G = 9) (C : Cx SC G cX6_readInto RX6) {Acc : ((Int32 × Int32 × Int32 × Int32) ⊕ (Int32 × Int32 × Int32 × Int32)) → Prop} {B : Nat} (hB : isM B) {o1 : Nat} (ho1 : isD o1) (v2 : Int32) (v4 : Int32) (v5 : Int32) (v6 : Int32) (v7 : Int32) (s : St) (hb1 : ∀ (a4 : Int32) (a5 : Int32) (a6 : Int32) (a7 : Int32), Acc (.inl (a4, a5, a6, a7)) → KK SC G 14 [(0, .ref (ad G (B + 1))), (1, .ref (ad G o1)), (2, .int v2), (4, .int a4), (5, .int a5), (6, .int a6), (7, .int a7)] [] s) (hx1 : ∀ (a4 : Int32) (a5 : Int32) (a6 : Int32) (a7 : Int32), Acc (.inr (a4, a5, a6, a7)) → KK SC G 80 [(0, .ref (ad G (B + 1))), (1, .ref (ad G o1)), (2, .int v2), (4, .int a4), (5, .int a5), (6, .int a6), (7, .int a7)] [] s) : JJ SC G Acc (f_Me_readInto_L14 B o1 v2 v4 v5 v6 v7 s) 14 [(0, .ref (ad G (B + 1))), (1, .ref (ad G o1)), (2, .int v2), (4, .int v4), (5, .int v5), (6, .int v6), (7, .int v7)] [] s := by
  unfold f_Me_readInto_L14
  refine jr_iload C 6 rfl dX6_readInto_14 ?_
  refine jr_if_lt C (tgt := 80) dX6_readInto_16 (by decide) (fun h2 => ?_) (fun h2 => ?_)
  · refine jo_pos h2 ?_
    exact jr_end (fun h => hx1 v4 v5 v6 v7 h)
  refine jo_neg h2 ?_
  refine jr_iload_n C 2 rfl rfl dX6_readInto_19 ?_
  refine jr_iload C 6 rfl dX6_readInto_20 ?_
  refine jr_iadd C dX6_readInto_22 ?_
  refine jr_ltI (fun x3 => ?_)
  refine jr_istore C (lv' := [(8, .int x3), (0, .ref (ad G (B + 1))), (1, .ref (ad G o1)), (2, .int v2), (4, .int v4), (5, .int v5), (6, .int v6), (7, .int v7)]) (ltL hL rfl) rfl dX6_readInto_23 ?_
  refine jr_iload C 4 rfl dX6_readInto_25 ?_
  refine jr_bipush C bp_8 dX6_readInto_27 ?_
  refine jr_ishl C dX6_readInto_29 ?_
  refine jr_aload_n C 1 rfl rfl dX6_readInto_30 ?_
  refine jr_getR C FX_6 0 (oM_1 hB).1 (oM_1 hB).2 ff_6_0.1 ff_6_0.2 (rM_1_0 _ hB) fl_X6_11 dX6_readInto_31 ?_
  refine jr_iload C 0 rfl dX6_readInto_34 ?_
  refine jr_iald C (oM_2 hB).1 (oM_2 hB).2.1 (oM_2 hB).2.2 dX6_readInto_36 ?_
  refine jr_ior C dX6_readInto_37 ?_
  refine jr_ltI (fun x4 => ?_)
  refine jr_istore C (lv' := [(4, .int x4), (8, .int x3), (0, .ref (ad G (B + 1))), (1, .ref (ad G o1)), (2, .int v2), (5, .int v5), (6, .int v6), (7, .int v7)]) (ltL hL rfl) rfl dX6_readInto_38 ?_
  refine jr_iload C 5 rfl dX6_readInto_40 ?_
  refine jr_bipush C bp_8 dX6_readInto_42 ?_
  refine jr_ishl C dX6_readInto_44 ?_
  refine jr_aload_n C 2 rfl rfl dX6_readInto_45 ?_
  refine jr_getR C FX_6 1 (oM_1 hB).1 (oM_1 hB).2 ff_6_1.1 ff_6_1.2 (rM_1_1 _ hB) fl_X6_15 dX6_readInto_46 ?_
  refine jr_iload C 1 rfl dX6_readInto_49 ?_
  refine jr_iald C (oM_3 hB).1 (oM_3 hB).2.1 (oM_3 hB).2.2 dX6_readInto_51 ?_
  refine jr_ior C dX6_readInto_52 ?_
  refine jr_ltI (fun x5 => ?_)
  refine jr_istore C (lv' := [(5, .int x5), (4, .int x4), (8, .int x3), (0, .ref (ad G (B + 1))), (1, .ref (ad G o1)), (2, .int v2), (6, .int v6), (7, .int v7)]) (ltL hL rfl) rfl dX6_readInto_53 ?_
  refine jr_aload_n C 3 rfl rfl dX6_readInto_55 ?_
  refine jr_getR C FX_6 1 (oM_1 hB).1 (oM_1 hB).2 ff_6_1.1 ff_6_1.2 (rM_1_1 _ hB) fl_X6_15 dX6_readInto_56 ?_
  refine jr_iload C 2 rfl dX6_readInto_59 ?_
  refine jr_iald C (oM_3 hB).1 (oM_3 hB).2.1 (oM_3 hB).2.2 dX6_readInto_61 ?_
  refine jr_if_eq C (tgt := 74) dX6_readInto_62 (by decide) (fun h6 => ?_) (fun h6 => ?_)
  · refine jo_pos h6 ?_
    refine jr_lv [3, 4, 5, 1, 0, 6, 7] rfl ?_
    exact t_Me_readInto_J74_1 G hR hL C hB ho1 v2 x4 x5 v6 v7 s hb1 hx1
  refine jo_neg h6 ?_
  refine jr_aload_n C 3 rfl rfl dX6_readInto_65 ?_
  refine jr_getR C FX_6 2 (oM_1 hB).1 (oM_1 hB).2 ff_6_2.1 ff_6_2.2 (rM_1_2 _ hB) fl_X6_18 dX6_readInto_66 ?_
  refine jr_iload C 2 rfl dX6_readInto_69 ?_
  refine jr_iald C (oM_4 hB).1 (oM_4 hB).2.1 (oM_4 hB).2.2 dX6_readInto_71 ?_
  refine jr_ltI (fun x7 => ?_)
  refine jr_istore C (lv' := [(6, .int x7), (5, .int x5), (4, .int x4), (8, .int x3), (0, .ref (ad G (B + 1))), (1, .ref (ad G o1)), (2, .int v2), (7, .int v7)]) (ltL hL rfl) rfl dX6_readInto_72 ?_
  refine jr_lv [4, 5, 6, 2, 1, 0, 7] rfl ?_
  exact t_Me_readInto_J74_1 G hR hL C hB ho1 v2 x4 x5 x7 v7 s hb1 hx1
noncomputable def f_Me_readInto (B : Nat) (k1 : Nat) (v2 : Int32) (v3 : Int32) (s : St) : Option St :=
  lt (v3 - 1) fun x1 =>
  (wh (fun a : (Int32 × Int32 × Int32 × Int32) => f_Me_readInto_L14 B k1 v2 a.1 a.2.1 a.2.2.1 a.2.2.2 s) (0, 0, 0, x1)).bind (fun b8 =>
  (f_Da_put k1 (b8.1) (b8.2.1) (b8.2.2.1) s).bind fun q9 =>
  some q9)
set_option maxHeartbeats 4000000 in
set_option maxRecDepth 100000 in
theorem t_Me_readInto (G : GG) (hR : gR G = rmx 1 23) (hL : gL G = 9) (C : Cx SC G cX6_readInto RX6) {Acc : St → Prop} {B : Nat} (hB : isM B) {k1 : Nat} (hk1 : isD k1) (v2 : Int32) (v3 : Int32) (s : St) (hr : ∀ v : St, Acc v → RtV SC G cX6_readInto v) : JJ SC G Acc (f_Me_readInto B k1 v2 v3 s) 0 [(0, .ref (ad G (B + 1))), (1, .ref (ad G k1)), (2, .int v2), (3, .int v3)] [] s := by
  unfold f_Me_readInto
  refine jr_iconst C ic_0 dX6_readInto_0 ?_
  refine jr_istore C (lv' := [(4, .int 0), (0, .ref (ad G (B + 1))), (1, .ref (ad G k1)), (2, .int v2), (3, .int v3)]) (ltL hL rfl) rfl dX6_readInto_1 ?_
  refine jr_iconst C ic_0 dX6_readInto_3 ?_
  refine jr_istore C (lv' := [(5, .int 0), (4, .int 0), (0, .ref (ad G (B + 1))), (1, .ref (ad G k1)), (2, .int v2), (3, .int v3)]) (ltL hL rfl) rfl dX6_readInto_4 ?_
  refine jr_iconst C ic_0 dX6_readInto_6 ?_
  refine jr_istore C (lv' := [(6, .int 0), (5, .int 0), (4, .int 0), (0, .ref (ad G (B + 1))), (1, .ref (ad G k1)), (2, .int v2), (3, .int v3)]) (ltL hL rfl) rfl dX6_readInto_7 ?_
  refine jr_iload_n C 6 rfl rfl dX6_readInto_9 ?_
  refine jr_iconst C ic_1 dX6_readInto_10 ?_
  refine jr_isub C dX6_readInto_11 ?_
  refine jr_ltI (fun x1 => ?_)
  refine jr_istore C (lv' := [(7, .int x1), (6, .int 0), (5, .int 0), (4, .int 0), (0, .ref (ad G (B + 1))), (1, .ref (ad G k1)), (2, .int v2), (3, .int v3)]) (ltL hL rfl) rfl dX6_readInto_12 ?_
  refine jr_lv [4, 5, 6, 3, 2, 1, 0] rfl ?_
  refine jr_loopB (pc := 14) (pcx := 80) (f := fun a : (Int32 × Int32 × Int32 × Int32) => f_Me_readInto_L14 B k1 v2 a.1 a.2.1 a.2.2.1 a.2.2.2 s) (fun a : (Int32 × Int32 × Int32 × Int32) => [(0, .ref (ad G (B + 1))), (1, .ref (ad G k1)), (2, .int v2), (4, .int (a.1)), (5, .int (a.2.1)), (6, .int (a.2.2.1)), (7, .int (a.2.2.2))]) (fun a : (Int32 × Int32 × Int32 × Int32) => s) (0, 0, 0, x1) (fun a => t_Me_readInto_L14 G hR hL C hB hk1 v2 a.1 a.2.1 a.2.2.1 a.2.2.2 s (fun _ _ _ _ h => h) (fun _ _ _ _ h => h)) (fun b8 => ?_)
  refine jr_aload_n C 1 rfl rfl dX6_readInto_80 ?_
  refine jr_iload C 3 rfl dX6_readInto_81 ?_
  refine jr_iload C 4 rfl dX6_readInto_83 ?_
  refine jr_iload C 5 rfl dX6_readInto_85 ?_
  refine jr_bind (fun q9 e10 => ?_)
  refine jr_callVV C FX_1 km_X6_60 (oD hk1).1 (oD hk1).2 (rk hR rfl) (c_Da_put (gl G) hk1 (b8.1) (b8.2.1) (b8.2.2.1) s e10) rfl rfl rfl (Nat.le_of_ble_eq_true rfl) dX6_readInto_87 ?_
  exact jr_end (fun h => hr q9 h _ _ dX6_readInto_90)
set_option maxRecDepth 100000 in
theorem c_Me_readInto (l : Launch) {B : Nat} (hB : isM B) {k1 : Nat} (hk1 : isD k1) (v2 : Int32) (v3 : Int32) (s : St) {q : St} (h : f_Me_readInto B k1 v2 v3 s = some q) : CT SC l yX6_readInto cX6_readInto 9 none 1 23 (fun a => [.ref (a (B + 1)), .ref (a k1), .int v2, .int v3]) s q (fun _ => none) :=
  ct_V okX_C (by decide) (fun _ => Nat.le_of_ble_eq_true rfl) (fun G hl hR hL C hr => t_Me_readInto G hR hL C (Acc := fun v => v = q) hB hk1 v2 v3 s (fun v hv => by rw [hv]; exact hr) ⟨_, h, rfl⟩)
noncomputable def f_Ma_loadBytes (B : Nat) (k1 : Nat) (v2 : Int32) (v3 : Int32) (s : St) : Option St :=
  lt ((s.1 k1 0) + v2) fun x1 =>
  (f_Ma_reportShade B k1 2 s).bind fun q2 =>
  (f_Ma_isValid B x1 v3 q2).bind fun q4 =>
  if q4.1 = 0 then
  ((f_Da_putSet (B + 34) 0 (q4.2)).bind fun q7 =>
  some q7)
  else
  (f_Me_readInto B (B + 34) x1 v3 (q4.2)).bind fun q9 =>
  some q9
set_option maxHeartbeats 4000000 in
set_option maxRecDepth 100000 in
theorem t_Ma_loadBytes (G : GG) (hR : gR G = rmx 3 71) (hL : gL G = 5) (C : Cx SC G cX5_loadBytes RX5) {Acc : St → Prop} {B : Nat} (hB : isM B) {k1 : Nat} (hk1 : isD k1) (v2 : Int32) (v3 : Int32) (s : St) (hr : ∀ v : St, Acc v → RtV SC G cX5_loadBytes v) : JJ SC G Acc (f_Ma_loadBytes B k1 v2 v3 s) 0 [(0, .ref (ad G B)), (1, .ref (ad G k1)), (2, .int v2), (3, .int v3)] [] s := by
  unfold f_Ma_loadBytes
  refine jr_aload_n C 1 rfl rfl dX5_loadBytes_0 ?_
  refine jr_getI C FX_1 0 (oD hk1).1 (oD hk1).2 ff_1_0.1 ff_1_0.2 fl_X5_232 dX5_loadBytes_1 ?_
  refine jr_iload_n C 2 rfl rfl dX5_loadBytes_4 ?_
  refine jr_iadd C dX5_loadBytes_5 ?_
  refine jr_ltI (fun x1 => ?_)
  refine jr_istore C (lv' := [(4, .int x1), (0, .ref (ad G B)), (1, .ref (ad G k1)), (2, .int v2), (3, .int v3)]) (ltL hL rfl) rfl dX5_loadBytes_6 ?_
  refine jr_aload_n C 1 rfl rfl dX5_loadBytes_8 ?_
  refine jr_iconst C ic_2 dX5_loadBytes_9 ?_
  refine jr_aload_n C 2 rfl rfl dX5_loadBytes_10 ?_
  refine jr_bind (fun q2 e3 => ?_)
  refine jr_callVV C FX_5 km_X5_259 (oM_0 hB).1 (oM_0 hB).2 (rk hR rfl) (c_Ma_reportShade (gl G) hB hk1 2 s e3) rfl rfl rfl (Nat.le_of_ble_eq_true rfl) dX5_loadBytes_11 ?_
  refine jr_aload_n C 1 rfl rfl dX5_loadBytes_14 ?_
  refine jr_iload C 0 rfl dX5_loadBytes_15 ?_
  refine jr_iload_n C 4 rfl rfl dX5_loadBytes_17 ?_
  refine jr_bind (fun q4 e5 => ?_)
  refine jr_callVI C FX_5 km_X5_279 (oM_0 hB).1 (oM_0 hB).2 (rk hR rfl) (c_Ma_isValid (gl G) hB x1 v3 q2 e5) rfl rfl rfl (Nat.le_of_ble_eq_true rfl) dX5_loadBytes_18 ?_
  refine jr_if_eq C (tgt := 41) dX5_loadBytes_21 (by decide) (fun h6 => ?_) (fun h6 => ?_)
  · refine jo_pos h6 ?_
    refine jr_aload_n C 1 rfl rfl dX5_loadBytes_41 ?_
    refine jr_getR C FX_5 6 (oM_0 hB).1 (oM_0 hB).2 ff_5_6.1 ff_5_6.2 (rM_0_6 _ hB) fl_X5_46 dX5_loadBytes_42 ?_
    refine jr_iconst C ic_0 dX5_loadBytes_45 ?_
    refine jr_bind (fun q7 e8 => ?_)
    refine jr_callVV C FX_1 km_X5_83 (oD (dM_34 hB)).1 (oD (dM_34 hB)).2 (rk hR rfl) (c_Da_putSet (gl G) (dM_34 hB) 0 (q4.2) e8) rfl rfl rfl (Nat.le_of_ble_eq_true rfl) dX5_loadBytes_46 ?_
    exact jr_end (fun h => hr q7 h _ _ dX5_loadBytes_49)
  refine jo_neg h6 ?_
  refine jr_aload_n C 1 rfl rfl dX5_loadBytes_24 ?_
  refine jr_getR C FX_5 1 (oM_0 hB).1 (oM_0 hB).2 ff_5_1.1 ff_5_1.2 (rM_0_1 _ hB) fl_X5_12 dX5_loadBytes_25 ?_
  refine jr_aload_n C 1 rfl rfl dX5_loadBytes_28 ?_
  refine jr_getR C FX_5 6 (oM_0 hB).1 (oM_0 hB).2 ff_5_6.1 ff_5_6.2 (rM_0_6 _ hB) fl_X5_46 dX5_loadBytes_29 ?_
  refine jr_iload C 0 rfl dX5_loadBytes_32 ?_
  refine jr_iload_n C 4 rfl rfl dX5_loadBytes_34 ?_
  refine jr_bind (fun q9 e10 => ?_)
  refine jr_callVV C FX_6 km_X5_283 (oM_1 hB).1 (oM_1 hB).2 (rk hR rfl) (c_Me_readInto (gl G) hB (dM_34 hB) x1 v3 (q4.2) e10) rfl rfl rfl (Nat.le_of_ble_eq_true rfl) dX5_loadBytes_35 ?_
  refine jr_goto C (tgt := 49) dX5_loadBytes_38 (by decide) ?_
  exact jr_end (fun h => hr q9 h _ _ dX5_loadBytes_49)
set_option maxRecDepth 100000 in
theorem c_Ma_loadBytes (l : Launch) {B : Nat} (hB : isM B) {k1 : Nat} (hk1 : isD k1) (v2 : Int32) (v3 : Int32) (s : St) {q : St} (h : f_Ma_loadBytes B k1 v2 v3 s = some q) : CT SC l yX5_loadBytes cX5_loadBytes 5 none 3 71 (fun a => [.ref (a B), .ref (a k1), .int v2, .int v3]) s q (fun _ => none) :=
  ct_V okX_C (by decide) (fun _ => Nat.le_of_ble_eq_true rfl) (fun G hl hR hL C hr => t_Ma_loadBytes G hR hL C (Acc := fun v => v = q) hB hk1 v2 v3 s (fun v hv => by rw [hv]; exact hr) ⟨_, h, rfl⟩)
noncomputable def f_Ma_load_J41 (B : Nat) (w0 : Int32) (s : St) : Option St :=
  (f_Ru_shade (B + 34) (B + 34) w0 (s.1 B 8) s).bind fun q10 =>
  (f_Ma_operand B 0 s).bind fun q12 =>
  (f_Ma_give B q12 (f_Ru_value w0 (s.1 (B + 34) 0) 0) q10 (s.1 (B + 34) 2) s).bind fun q14 =>
  some q14
set_option maxHeartbeats 4000000 in
set_option maxRecDepth 100000 in
theorem t_Ma_load_J41 (G : GG) (hR : gR G = rmx 4 99) (hL : gL G = 4) (C : Cx SC G cX5_load RX5) {Acc : St → Prop} {B : Nat} (hB : isM B) (w0 : Int32) (s : St) (hr : ∀ v : St, Acc v → RtV SC G cX5_load v) : JJ SC G Acc (f_Ma_load_J41 B w0 s) 41 [(0, .ref (ad G B))] [.int w0] s := by
  unfold f_Ma_load_J41
  refine jr_istore_n C (lv' := [(2, .int w0), (0, .ref (ad G B))]) (ltL hL rfl) rfl rfl dX5_load_41 ?_
  refine jr_iload_n C 0 rfl rfl dX5_load_42 ?_
  refine jr_aload_n C 1 rfl rfl dX5_load_43 ?_
  refine jr_getR C FX_5 6 (oM_0 hB).1 (oM_0 hB).2 ff_5_6.1 ff_5_6.2 (rM_0_6 _ hB) fl_X5_46 dX5_load_44 ?_
  refine jr_aload_n C 1 rfl rfl dX5_load_47 ?_
  refine jr_getR C FX_5 6 (oM_0 hB).1 (oM_0 hB).2 ff_5_6.1 ff_5_6.2 (rM_0_6 _ hB) fl_X5_46 dX5_load_48 ?_
  refine jr_aload_n C 1 rfl rfl dX5_load_51 ?_
  refine jr_getI C FX_5 8 (oM_0 hB).1 (oM_0 hB).2 ff_5_8.1 ff_5_8.2 fl_X5_64 dX5_load_52 ?_
  refine jr_bind (fun q10 e11 => ?_)
  refine jr_callSI C km_X5_263 (rk hR rfl) (c_Ru_shade (gl G) (dM_34 hB) (dM_34 hB) w0 (s.1 B 8) s e11) rfl rfl rfl (Nat.le_of_ble_eq_true rfl) dX5_load_55 ?_
  refine jr_istore_n C (lv' := [(3, .int q10), (2, .int w0), (0, .ref (ad G B))]) (ltL hL rfl) rfl rfl dX5_load_58 ?_
  refine jr_aload_n C 2 rfl rfl dX5_load_59 ?_
  refine jr_aload_n C 2 rfl rfl dX5_load_60 ?_
  refine jr_iconst C ic_0 dX5_load_61 ?_
  refine jr_bind (fun q12 e13 => ?_)
  refine jr_callVI C FX_5 km_X5_209 (oM_0 hB).1 (oM_0 hB).2 (rk hR rfl) (c_Ma_operand (gl G) hB 0 s e13) rfl rfl rfl (Nat.le_of_ble_eq_true rfl) dX5_load_62 ?_
  refine jr_iload_n C 1 rfl rfl dX5_load_65 ?_
  refine jr_aload_n C 2 rfl rfl dX5_load_66 ?_
  refine jr_getR C FX_5 6 (oM_0 hB).1 (oM_0 hB).2 ff_5_6.1 ff_5_6.2 (rM_0_6 _ hB) fl_X5_46 dX5_load_67 ?_
  refine jr_getI C FX_1 0 (oD (dM_34 hB)).1 (oD (dM_34 hB)).2 ff_1_0.1 ff_1_0.2 fl_X5_232 dX5_load_70 ?_
  refine jr_iconst C ic_0 dX5_load_73 ?_
  refine jr_callSI C km_X5_268 (rk hR rfl) (c_Ru_value (gl G) w0 (s.1 (B + 34) 0) 0 s) rfl rfl rfl (Nat.le_of_ble_eq_true rfl) dX5_load_74 ?_
  refine jr_iload_n C 0 rfl rfl dX5_load_77 ?_
  refine jr_aload_n C 2 rfl rfl dX5_load_78 ?_
  refine jr_getR C FX_5 6 (oM_0 hB).1 (oM_0 hB).2 ff_5_6.1 ff_5_6.2 (rM_0_6 _ hB) fl_X5_46 dX5_load_79 ?_
  refine jr_getI C FX_1 2 (oD (dM_34 hB)).1 (oD (dM_34 hB)).2 ff_1_2.1 ff_1_2.2 fl_X5_244 dX5_load_82 ?_
  refine jr_bind (fun q14 e15 => ?_)
  refine jr_callVV C FX_5 km_X5_275 (oM_0 hB).1 (oM_0 hB).2 (rk hR rfl) (c_Ma_give (gl G) hB q12 (f_Ru_value w0 (s.1 (B + 34) 0) 0) q10 (s.1 (B + 34) 2) s e15) rfl rfl rfl (Nat.le_of_ble_eq_true rfl) dX5_load_85 ?_
  exact jr_end (fun h => hr q14 h _ _ dX5_load_88)
noncomputable def f_Ma_load (B : Nat) (v1 : Int32) (s : St) : Option St :=
  (f_Ma_registerOf B 1 s).bind fun q1 =>
  if isD q1 then
  ((f_Ma_operand B 2 s).bind fun q4 =>
  (f_Ma_loadBytes B q1 q4 (f_Ma_widthOf v1) s).bind fun q6 =>
  if v1 = 21 then
  f_Ma_load_J41 B 19 q6
  else
  if v1 = 23 then
  f_Ma_load_J41 B 20 q6
  else
  f_Ma_load_J41 B 1 q6)
  else none
set_option maxHeartbeats 4000000 in
set_option maxRecDepth 100000 in
theorem t_Ma_load (G : GG) (hR : gR G = rmx 4 99) (hL : gL G = 4) (C : Cx SC G cX5_load RX5) {Acc : St → Prop} {B : Nat} (hB : isM B) (v1 : Int32) (s : St) (hr : ∀ v : St, Acc v → RtV SC G cX5_load v) : JJ SC G Acc (f_Ma_load B v1 s) 0 [(0, .ref (ad G B)), (1, .int v1)] [] s := by
  unfold f_Ma_load
  refine jr_aload_n C 0 rfl rfl dX5_load_0 ?_
  refine jr_aload_n C 0 rfl rfl dX5_load_1 ?_
  refine jr_iconst C ic_1 dX5_load_2 ?_
  refine jr_bind (fun q1 e2 => ?_)
  refine jr_callVA C FX_5 km_X5_213 (oM_0 hB).1 (oM_0 hB).2 (rk hR rfl) (c_Ma_registerOf (gl G) hB 1 s e2) rfl rfl rfl (Nat.le_of_ble_eq_true rfl) dX5_load_3 ?_
  refine jo_if (fun h3 => ?_)
  refine jr_aload_n C 0 rfl rfl dX5_load_6 ?_
  refine jr_iconst C ic_2 dX5_load_7 ?_
  refine jr_bind (fun q4 e5 => ?_)
  refine jr_callVI C FX_5 km_X5_209 (oM_0 hB).1 (oM_0 hB).2 (rk hR rfl) (c_Ma_operand (gl G) hB 2 s e5) rfl rfl rfl (Nat.le_of_ble_eq_true rfl) dX5_load_8 ?_
  refine jr_iload_n C 1 rfl rfl dX5_load_11 ?_
  refine jr_callSI C km_X5_287 (rk hR rfl) (c_Ma_widthOf (gl G) isM_20 v1 s) rfl rfl rfl (Nat.le_of_ble_eq_true rfl) dX5_load_12 ?_
  refine jr_bind (fun q6 e7 => ?_)
  refine jr_callVV C FX_5 km_X5_290 (oM_0 hB).1 (oM_0 hB).2 (rk hR rfl) (c_Ma_loadBytes (gl G) hB h3 q4 (f_Ma_widthOf v1) s e7) rfl rfl rfl (Nat.le_of_ble_eq_true rfl) dX5_load_15 ?_
  refine jr_iload_n C 1 rfl rfl dX5_load_18 ?_
  refine jr_bipush C bp_21 dX5_load_19 ?_
  refine jr_icmp_ne C (tgt := 29) dX5_load_21 (by decide) (fun h8 => ?_) (fun h8 => ?_)
  · refine jo_neg h8 ?_
    refine jr_iload_n C 1 rfl rfl dX5_load_29 ?_
    refine jr_bipush C bp_23 dX5_load_30 ?_
    refine jr_icmp_ne C (tgt := 40) dX5_load_32 (by decide) (fun h9 => ?_) (fun h9 => ?_)
    · refine jo_neg h9 ?_
      refine jr_iconst C ic_1 dX5_load_40 ?_
      refine jr_lv [0] rfl ?_
      exact t_Ma_load_J41 G hR hL C hB 1 q6 hr
    refine jo_pos h9 ?_
    refine jr_bipush C bp_20 dX5_load_35 ?_
    refine jr_goto C (tgt := 41) dX5_load_37 (by decide) ?_
    refine jr_lv [0] rfl ?_
    exact t_Ma_load_J41 G hR hL C hB 20 q6 hr
  refine jo_pos h8 ?_
  refine jr_bipush C bp_19 dX5_load_24 ?_
  refine jr_goto C (tgt := 41) dX5_load_26 (by decide) ?_
  refine jr_lv [0] rfl ?_
  exact t_Ma_load_J41 G hR hL C hB 19 q6 hr
set_option maxRecDepth 100000 in
theorem c_Ma_load (l : Launch) {B : Nat} (hB : isM B) (v1 : Int32) (s : St) {q : St} (h : f_Ma_load B v1 s = some q) : CT SC l yX5_load cX5_load 4 none 4 99 (fun a => [.ref (a B), .int v1]) s q (fun _ => none) :=
  ct_V okX_C (by decide) (fun _ => Nat.le_of_ble_eq_true rfl) (fun G hl hR hL C hr => t_Ma_load G hR hL C (Acc := fun v => v = q) hB v1 s (fun v hv => by rw [hv]; exact hr) ⟨_, h, rfl⟩)
noncomputable def f_Me_write_L3 (B : Nat) (o1 : Nat) (v2 : Int32) (v3 : Int32) (v4 : Int32) (s : St) : Option ((Int32 × St) ⊕ (Int32 × St)) :=
  if v3 ≤ v4 then
  some (.inr (v4, s))
  else
  (f_Me_putByte B (v2 + v4) ((((s.1 o1 0)).toUInt32 >>> (((8 * v4) : Int32).toUInt32 &&& Int32.toUInt32 31)).toInt32) ((((s.1 o1 1)).toUInt32 >>> (((8 * v4) : Int32).toUInt32 &&& Int32.toUInt32 31)).toInt32) (s.1 o1 2) s).bind fun q2 =>
  some (.inl ((v4 + 1), q2))
set_option maxHeartbeats 4000000 in
set_option maxRecDepth 100000 in
theorem t_Me_write_L3 (G : GG) (hR : gR G = rmx 1 24) (hL : gL G = 5) (C : Cx SC G cX6_write RX6) {Acc : ((Int32 × St) ⊕ (Int32 × St)) → Prop} {B : Nat} (hB : isM B) {o1 : Nat} (ho1 : isD o1) (v2 : Int32) (v3 : Int32) (v4 : Int32) (s : St) (hb1 : ∀ (a4 : Int32) (t : St), Acc (.inl (a4, t)) → KK SC G 3 [(0, .ref (ad G (B + 1))), (1, .ref (ad G o1)), (2, .int v2), (3, .int v3), (4, .int a4)] [] t) (hx1 : ∀ (a4 : Int32) (t : St), Acc (.inr (a4, t)) → KK SC G 47 [(0, .ref (ad G (B + 1))), (1, .ref (ad G o1)), (2, .int v2), (3, .int v3), (4, .int a4)] [] t) : JJ SC G Acc (f_Me_write_L3 B o1 v2 v3 v4 s) 3 [(0, .ref (ad G (B + 1))), (1, .ref (ad G o1)), (2, .int v2), (3, .int v3), (4, .int v4)] [] s := by
  unfold f_Me_write_L3
  refine jr_iload C 4 rfl dX6_write_3 ?_
  refine jr_iload_n C 3 rfl rfl dX6_write_5 ?_
  refine jr_icmp_ge C (tgt := 47) dX6_write_6 (by decide) (fun h1 => ?_) (fun h1 => ?_)
  · refine jo_pos h1 ?_
    exact jr_end (fun h => hx1 v4 s h)
  refine jo_neg h1 ?_
  refine jr_aload_n C 0 rfl rfl dX6_write_9 ?_
  refine jr_iload_n C 2 rfl rfl dX6_write_10 ?_
  refine jr_iload C 4 rfl dX6_write_11 ?_
  refine jr_iadd C dX6_write_13 ?_
  refine jr_aload_n C 1 rfl rfl dX6_write_14 ?_
  refine jr_getI C FX_1 0 (oD ho1).1 (oD ho1).2 ff_1_0.1 ff_1_0.2 fl_X6_65 dX6_write_15 ?_
  refine jr_bipush C bp_8 dX6_write_18 ?_
  refine jr_iload C 4 rfl dX6_write_20 ?_
  refine jr_imul C dX6_write_22 ?_
  refine jr_iushr C dX6_write_23 ?_
  refine jr_aload_n C 1 rfl rfl dX6_write_24 ?_
  refine jr_getI C FX_1 1 (oD ho1).1 (oD ho1).2 ff_1_1.1 ff_1_1.2 fl_X6_67 dX6_write_25 ?_
  refine jr_bipush C bp_8 dX6_write_28 ?_
  refine jr_iload C 4 rfl dX6_write_30 ?_
  refine jr_imul C dX6_write_32 ?_
  refine jr_iushr C dX6_write_33 ?_
  refine jr_aload_n C 1 rfl rfl dX6_write_34 ?_
  refine jr_getI C FX_1 2 (oD ho1).1 (oD ho1).2 ff_1_2.1 ff_1_2.2 fl_X6_70 dX6_write_35 ?_
  refine jr_bind (fun q2 e3 => ?_)
  refine jr_callVV C FX_6 km_X6_43 (oM_1 hB).1 (oM_1 hB).2 (rk hR rfl) (c_Me_putByte (gl G) hB (v2 + v4) ((((s.1 o1 0)).toUInt32 >>> (((8 * v4) : Int32).toUInt32 &&& Int32.toUInt32 31)).toInt32) ((((s.1 o1 1)).toUInt32 >>> (((8 * v4) : Int32).toUInt32 &&& Int32.toUInt32 31)).toInt32) (s.1 o1 2) s e3) rfl rfl rfl (Nat.le_of_ble_eq_true rfl) dX6_write_38 ?_
  refine jr_iinc C 4 rfl ii_1 (lv' := [(4, .int (v4 + 1)), (0, .ref (ad G (B + 1))), (1, .ref (ad G o1)), (2, .int v2), (3, .int v3)]) (ltL hL rfl) rfl dX6_write_41 ?_
  refine jr_goto C (tgt := 3) dX6_write_44 (by decide) ?_
  refine jr_lv [1, 2, 3, 4, 0] rfl ?_
  exact jr_end (fun h => hb1 (v4 + 1) q2 h)
noncomputable def f_Me_write (B : Nat) (k1 : Nat) (v2 : Int32) (v3 : Int32) (s : St) : Option St :=
  (wh (fun a : (Int32 × St) => f_Me_write_L3 B k1 v2 v3 a.1 a.2) (0, s)).bind (fun b4 =>
  some (b4.2))
set_option maxHeartbeats 4000000 in
set_option maxRecDepth 100000 in
theorem t_Me_write (G : GG) (hR : gR G = rmx 1 24) (hL : gL G = 5) (C : Cx SC G cX6_write RX6) {Acc : St → Prop} {B : Nat} (hB : isM B) {k1 : Nat} (hk1 : isD k1) (v2 : Int32) (v3 : Int32) (s : St) (hr : ∀ v : St, Acc v → RtV SC G cX6_write v) : JJ SC G Acc (f_Me_write B k1 v2 v3 s) 0 [(0, .ref (ad G (B + 1))), (1, .ref (ad G k1)), (2, .int v2), (3, .int v3)] [] s := by
  unfold f_Me_write
  refine jr_iconst C ic_0 dX6_write_0 ?_
  refine jr_istore C (lv' := [(4, .int 0), (0, .ref (ad G (B + 1))), (1, .ref (ad G k1)), (2, .int v2), (3, .int v3)]) (ltL hL rfl) rfl dX6_write_1 ?_
  refine jr_lv [1, 2, 3, 4, 0] rfl ?_
  refine jr_loopB (pc := 3) (pcx := 47) (f := fun a : (Int32 × St) => f_Me_write_L3 B k1 v2 v3 a.1 a.2) (fun a : (Int32 × St) => [(0, .ref (ad G (B + 1))), (1, .ref (ad G k1)), (2, .int v2), (3, .int v3), (4, .int (a.1))]) (fun a : (Int32 × St) => a.2) (0, s) (fun a => t_Me_write_L3 G hR hL C hB hk1 v2 v3 a.1 a.2 (fun _ _ h => h) (fun _ _ h => h)) (fun b4 => ?_)
  exact jr_end (fun h => hr (b4.2) h _ _ dX6_write_47)
set_option maxRecDepth 100000 in
theorem c_Me_write (l : Launch) {B : Nat} (hB : isM B) {k1 : Nat} (hk1 : isD k1) (v2 : Int32) (v3 : Int32) (s : St) {q : St} (h : f_Me_write B k1 v2 v3 s = some q) : CT SC l yX6_write cX6_write 5 none 1 24 (fun a => [.ref (a (B + 1)), .ref (a k1), .int v2, .int v3]) s q (fun _ => none) :=
  ct_V okX_C (by decide) (fun _ => Nat.le_of_ble_eq_true rfl) (fun G hl hR hL C hr => t_Me_write G hR hL C (Acc := fun v => v = q) hB hk1 v2 v3 s (fun v hv => by rw [hv]; exact hr) ⟨_, h, rfl⟩)
noncomputable def f_Ma_store (B : Nat) (v1 : Int32) (s : St) : Option St :=
  (f_Ma_registerOf B 1 s).bind fun q1 =>
  if isD q1 then
  ((f_Ma_operand B 2 s).bind fun q4 =>
  lt ((s.1 q1 0) + q4) fun x6 =>
  (f_Ma_reportShade B q1 2 s).bind fun q7 =>
  (f_Ma_isValid B x6 (f_Ma_widthOf v1) q7).bind fun q9 =>
  if q9.1 = 0 then
  some (q9.2)
  else
  (f_Ma_registerOf B 0 (q9.2)).bind fun q12 =>
  if isD q12 then
  ((f_Me_write B q12 x6 (f_Ma_widthOf v1) (q9.2)).bind fun q15 =>
  some q15)
  else none)
  else none
set_option maxHeartbeats 4000000 in
set_option maxRecDepth 100000 in
theorem t_Ma_store (G : GG) (hR : gR G = rmx 3 71) (hL : gL G = 4) (C : Cx SC G cX5_store RX5) {Acc : St → Prop} {B : Nat} (hB : isM B) (v1 : Int32) (s : St) (hr : ∀ v : St, Acc v → RtV SC G cX5_store v) : JJ SC G Acc (f_Ma_store B v1 s) 0 [(0, .ref (ad G B)), (1, .int v1)] [] s := by
  unfold f_Ma_store
  refine jr_aload_n C 0 rfl rfl dX5_store_0 ?_
  refine jr_iconst C ic_1 dX5_store_1 ?_
  refine jr_bind (fun q1 e2 => ?_)
  refine jr_callVA C FX_5 km_X5_213 (oM_0 hB).1 (oM_0 hB).2 (rk hR rfl) (c_Ma_registerOf (gl G) hB 1 s e2) rfl rfl rfl (Nat.le_of_ble_eq_true rfl) dX5_store_2 ?_
  refine jo_if (fun h3 => ?_)
  refine jr_astore_n C (lv' := [(2, .ref (ad G q1)), (0, .ref (ad G B)), (1, .int v1)]) (ltL hL rfl) rfl rfl dX5_store_5 ?_
  refine jr_aload_n C 0 rfl rfl dX5_store_6 ?_
  refine jr_getI C FX_1 0 (oD h3).1 (oD h3).2 ff_1_0.1 ff_1_0.2 fl_X5_232 dX5_store_7 ?_
  refine jr_aload_n C 1 rfl rfl dX5_store_10 ?_
  refine jr_iconst C ic_2 dX5_store_11 ?_
  refine jr_bind (fun q4 e5 => ?_)
  refine jr_callVI C FX_5 km_X5_209 (oM_0 hB).1 (oM_0 hB).2 (rk hR rfl) (c_Ma_operand (gl G) hB 2 s e5) rfl rfl rfl (Nat.le_of_ble_eq_true rfl) dX5_store_12 ?_
  refine jr_iadd C dX5_store_15 ?_
  refine jr_ltI (fun x6 => ?_)
  refine jr_istore_n C (lv' := [(3, .int x6), (2, .ref (ad G q1)), (0, .ref (ad G B)), (1, .int v1)]) (ltL hL rfl) rfl rfl dX5_store_16 ?_
  refine jr_aload_n C 2 rfl rfl dX5_store_17 ?_
  refine jr_iconst C ic_2 dX5_store_18 ?_
  refine jr_aload_n C 1 rfl rfl dX5_store_19 ?_
  refine jr_bind (fun q7 e8 => ?_)
  refine jr_callVV C FX_5 km_X5_259 (oM_0 hB).1 (oM_0 hB).2 (rk hR rfl) (c_Ma_reportShade (gl G) hB h3 2 s e8) rfl rfl rfl (Nat.le_of_ble_eq_true rfl) dX5_store_20 ?_
  refine jr_aload_n C 2 rfl rfl dX5_store_23 ?_
  refine jr_iload_n C 0 rfl rfl dX5_store_24 ?_
  refine jr_iload_n C 3 rfl rfl dX5_store_25 ?_
  refine jr_callSI C km_X5_287 (rk hR rfl) (c_Ma_widthOf (gl G) isM_20 v1 q7) rfl rfl rfl (Nat.le_of_ble_eq_true rfl) dX5_store_26 ?_
  refine jr_bind (fun q9 e10 => ?_)
  refine jr_callVI C FX_5 km_X5_279 (oM_0 hB).1 (oM_0 hB).2 (rk hR rfl) (c_Ma_isValid (gl G) hB x6 (f_Ma_widthOf v1) q7 e10) rfl rfl rfl (Nat.le_of_ble_eq_true rfl) dX5_store_29 ?_
  refine jr_if_eq C (tgt := 52) dX5_store_32 (by decide) (fun h11 => ?_) (fun h11 => ?_)
  · refine jo_pos h11 ?_
    exact jr_end (fun h => hr (q9.2) h _ _ dX5_store_52)
  refine jo_neg h11 ?_
  refine jr_aload_n C 2 rfl rfl dX5_store_35 ?_
  refine jr_getR C FX_5 1 (oM_0 hB).1 (oM_0 hB).2 ff_5_1.1 ff_5_1.2 (rM_0_1 _ hB) fl_X5_12 dX5_store_36 ?_
  refine jr_aload_n C 2 rfl rfl dX5_store_39 ?_
  refine jr_iconst C ic_0 dX5_store_40 ?_
  refine jr_bind (fun q12 e13 => ?_)
  refine jr_callVA C FX_5 km_X5_213 (oM_0 hB).1 (oM_0 hB).2 (rk hR rfl) (c_Ma_registerOf (gl G) hB 0 (q9.2) e13) rfl rfl rfl (Nat.le_of_ble_eq_true rfl) dX5_store_41 ?_
  refine jo_if (fun h14 => ?_)
  refine jr_iload_n C 0 rfl rfl dX5_store_44 ?_
  refine jr_iload_n C 3 rfl rfl dX5_store_45 ?_
  refine jr_callSI C km_X5_287 (rk hR rfl) (c_Ma_widthOf (gl G) isM_20 v1 (q9.2)) rfl rfl rfl (Nat.le_of_ble_eq_true rfl) dX5_store_46 ?_
  refine jr_bind (fun q15 e16 => ?_)
  refine jr_callVV C FX_6 km_X5_293 (oM_1 hB).1 (oM_1 hB).2 (rk hR rfl) (c_Me_write (gl G) hB h14 x6 (f_Ma_widthOf v1) (q9.2) e16) rfl rfl rfl (Nat.le_of_ble_eq_true rfl) dX5_store_49 ?_
  exact jr_end (fun h => hr q15 h _ _ dX5_store_52)
set_option maxRecDepth 100000 in
theorem c_Ma_store (l : Launch) {B : Nat} (hB : isM B) (v1 : Int32) (s : St) {q : St} (h : f_Ma_store B v1 s = some q) : CT SC l yX5_store cX5_store 4 none 3 71 (fun a => [.ref (a B), .int v1]) s q (fun _ => none) :=
  ct_V okX_C (by decide) (fun _ => Nat.le_of_ble_eq_true rfl) (fun G hl hR hL C hr => t_Ma_store G hR hL C (Acc := fun v => v = q) hB v1 s (fun v hv => by rw [hv]; exact hr) ⟨_, h, rfl⟩)
noncomputable def f_Ma_branch_J150 (B : Nat) (v4 : Int32) (w0 : Int32) (s : St) : Option St :=
  (f_Ma_addToMark B w0 s).bind fun q14 =>
  if v4 = 0 then
  some q14
  else
  (f_Ma_operand B 2 q14).bind fun q17 =>
  lt (uI q14 B 10 q17) fun s19 =>
  some s19
set_option maxHeartbeats 4000000 in
set_option maxRecDepth 100000 in
theorem t_Ma_branch_J150 (G : GG) (hR : gR G = rmx 4 88) (hL : gL G = 5) (C : Cx SC G cX5_branch RX5) {Acc : St → Prop} {B : Nat} (hB : isM B) (v4 : Int32) (w0 : Int32) (s : St) (hr : ∀ v : St, Acc v → RtV SC G cX5_branch v) : JJ SC G Acc (f_Ma_branch_J150 B v4 w0 s) 150 [(0, .ref (ad G B)), (4, .int v4)] [.int w0, .ref (ad G B)] s := by
  unfold f_Ma_branch_J150
  refine jr_bind (fun q14 e15 => ?_)
  refine jr_callVV C FX_5 km_X5_238 (oM_0 hB).1 (oM_0 hB).2 (rk hR rfl) (c_Ma_addToMark (gl G) hB w0 s e15) rfl rfl rfl (Nat.le_of_ble_eq_true rfl) dX5_branch_150 ?_
  refine jr_iload C 1 rfl dX5_branch_153 ?_
  refine jr_if_eq C (tgt := 167) dX5_branch_155 (by decide) (fun h16 => ?_) (fun h16 => ?_)
  · refine jo_pos h16 ?_
    exact jr_end (fun h => hr q14 h _ _ dX5_branch_167)
  refine jo_neg h16 ?_
  refine jr_aload_n C 0 rfl rfl dX5_branch_158 ?_
  refine jr_aload_n C 0 rfl rfl dX5_branch_159 ?_
  refine jr_iconst C ic_2 dX5_branch_160 ?_
  refine jr_bind (fun q17 e18 => ?_)
  refine jr_callVI C FX_5 km_X5_209 (oM_0 hB).1 (oM_0 hB).2 (rk hR rfl) (c_Ma_operand (gl G) hB 2 q14 e18) rfl rfl rfl (Nat.le_of_ble_eq_true rfl) dX5_branch_161 ?_
  refine jr_putI C FX_5 10 (oM_0 hB).1 (oM_0 hB).2 ff_5_10.1 ff_5_10.2 rfl rfl fl_X5_119 dX5_branch_164 (jr_ltS fun s19 => ?_)
  exact jr_end (fun h => hr s19 h _ _ dX5_branch_167)
noncomputable def f_Ma_branch_J135 (B : Nat) (v3 : Int32) (w0 : Int32) (s : St) : Option St :=
  lt (w0 ^^^ v3) fun x12 =>
  if x12 = 0 then
  f_Ma_branch_J150 B x12 2 s
  else
  f_Ma_branch_J150 B x12 1 s
set_option maxHeartbeats 4000000 in
set_option maxRecDepth 100000 in
theorem t_Ma_branch_J135 (G : GG) (hR : gR G = rmx 4 88) (hL : gL G = 5) (C : Cx SC G cX5_branch RX5) {Acc : St → Prop} {B : Nat} (hB : isM B) (v3 : Int32) (w0 : Int32) (s : St) (hr : ∀ v : St, Acc v → RtV SC G cX5_branch v) : JJ SC G Acc (f_Ma_branch_J135 B v3 w0 s) 135 [(0, .ref (ad G B)), (3, .int v3)] [.int w0] s := by
  unfold f_Ma_branch_J135
  refine jr_iload_n C 1 rfl rfl dX5_branch_135 ?_
  refine jr_ixor C dX5_branch_136 ?_
  refine jr_ltI (fun x12 => ?_)
  refine jr_istore C (lv' := [(4, .int x12), (0, .ref (ad G B)), (3, .int v3)]) (ltL hL rfl) rfl dX5_branch_137 ?_
  refine jr_aload_n C 1 rfl rfl dX5_branch_139 ?_
  refine jr_iload C 0 rfl dX5_branch_140 ?_
  refine jr_if_eq C (tgt := 149) dX5_branch_142 (by decide) (fun h13 => ?_) (fun h13 => ?_)
  · refine jo_pos h13 ?_
    refine jr_iconst C ic_2 dX5_branch_149 ?_
    refine jr_lv [1, 0] rfl ?_
    exact t_Ma_branch_J150 G hR hL C hB x12 2 s hr
  refine jo_neg h13 ?_
  refine jr_iconst C ic_1 dX5_branch_145 ?_
  refine jr_goto C (tgt := 150) dX5_branch_146 (by decide) ?_
  refine jr_lv [1, 0] rfl ?_
  exact t_Ma_branch_J150 G hR hL C hB x12 1 s hr
noncomputable def f_Ma_branch_J109 (B : Nat) (v2 : Int32) (v3 : Int32) (s : St) : Option St :=
  if (f_Ru_value v2 (s.1 (B + 34) 0) (s.1 (B + 35) 0)) = 0 then
  f_Ma_branch_J135 B v3 0 s
  else
  f_Ma_branch_J135 B v3 1 s
set_option maxHeartbeats 4000000 in
set_option maxRecDepth 100000 in
theorem t_Ma_branch_J109 (G : GG) (hR : gR G = rmx 4 88) (hL : gL G = 5) (C : Cx SC G cX5_branch RX5) {Acc : St → Prop} {B : Nat} (hB : isM B) (v2 : Int32) (v3 : Int32) (s : St) (hr : ∀ v : St, Acc v → RtV SC G cX5_branch v) : JJ SC G Acc (f_Ma_branch_J109 B v2 v3 s) 109 [(0, .ref (ad G B)), (2, .int v2), (3, .int v3)] [] s := by
  unfold f_Ma_branch_J109
  refine jr_iload_n C 1 rfl rfl dX5_branch_109 ?_
  refine jr_aload_n C 0 rfl rfl dX5_branch_110 ?_
  refine jr_getR C FX_5 6 (oM_0 hB).1 (oM_0 hB).2 ff_5_6.1 ff_5_6.2 (rM_0_6 _ hB) fl_X5_46 dX5_branch_111 ?_
  refine jr_getI C FX_1 0 (oD (dM_34 hB)).1 (oD (dM_34 hB)).2 ff_1_0.1 ff_1_0.2 fl_X5_232 dX5_branch_114 ?_
  refine jr_aload_n C 0 rfl rfl dX5_branch_117 ?_
  refine jr_getR C FX_5 7 (oM_0 hB).1 (oM_0 hB).2 ff_5_7.1 ff_5_7.2 (rM_0_7 _ hB) fl_X5_50 dX5_branch_118 ?_
  refine jr_getI C FX_1 0 (oD (dM_35 hB)).1 (oD (dM_35 hB)).2 ff_1_0.1 ff_1_0.2 fl_X5_232 dX5_branch_121 ?_
  refine jr_callSI C km_X5_268 (rk hR rfl) (c_Ru_value (gl G) v2 (s.1 (B + 34) 0) (s.1 (B + 35) 0) s) rfl rfl rfl (Nat.le_of_ble_eq_true rfl) dX5_branch_124 ?_
  refine jr_if_eq C (tgt := 134) dX5_branch_127 (by decide) (fun h11 => ?_) (fun h11 => ?_)
  · refine jo_pos h11 ?_
    refine jr_iconst C ic_0 dX5_branch_134 ?_
    refine jr_lv [0, 2] rfl ?_
    exact t_Ma_branch_J135 G hR hL C hB v3 0 s hr
  refine jo_neg h11 ?_
  refine jr_iconst C ic_1 dX5_branch_130 ?_
  refine jr_goto C (tgt := 135) dX5_branch_131 (by decide) ?_
  refine jr_lv [0, 2] rfl ?_
  exact t_Ma_branch_J135 G hR hL C hB v3 1 s hr
noncomputable def f_Ma_branch_J66 (B : Nat) (v2 : Int32) (w0 : Int32) (s : St) : Option St :=
  (f_Ru_shade (B + 34) (B + 35) v2 (s.1 B 8) s).bind fun q8 =>
  if q8 = 0 then
  f_Ma_branch_J109 B v2 w0 s
  else
  (f_Ru_origin (B + 34) (B + 35) s).bind fun q20 =>
  (f_Lg_note B 1 (s.1 B 9) q20 s).bind fun q22 =>
  f_Ma_branch_J109 B v2 w0 q22
set_option maxHeartbeats 4000000 in
set_option maxRecDepth 100000 in
theorem t_Ma_branch_J66 (G : GG) (hR : gR G = rmx 4 88) (hL : gL G = 5) (C : Cx SC G cX5_branch RX5) {Acc : St → Prop} {B : Nat} (hB : isM B) (v2 : Int32) (w0 : Int32) (s : St) (hr : ∀ v : St, Acc v → RtV SC G cX5_branch v) : JJ SC G Acc (f_Ma_branch_J66 B v2 w0 s) 66 [(0, .ref (ad G B)), (2, .int v2)] [.int w0] s := by
  unfold f_Ma_branch_J66
  refine jr_istore_n C (lv' := [(3, .int w0), (0, .ref (ad G B)), (2, .int v2)]) (ltL hL rfl) rfl rfl dX5_branch_66 ?_
  refine jr_iload_n C 2 rfl rfl dX5_branch_67 ?_
  refine jr_aload_n C 1 rfl rfl dX5_branch_68 ?_
  refine jr_getR C FX_5 6 (oM_0 hB).1 (oM_0 hB).2 ff_5_6.1 ff_5_6.2 (rM_0_6 _ hB) fl_X5_46 dX5_branch_69 ?_
  refine jr_aload_n C 1 rfl rfl dX5_branch_72 ?_
  refine jr_getR C FX_5 7 (oM_0 hB).1 (oM_0 hB).2 ff_5_7.1 ff_5_7.2 (rM_0_7 _ hB) fl_X5_50 dX5_branch_73 ?_
  refine jr_aload_n C 1 rfl rfl dX5_branch_76 ?_
  refine jr_getI C FX_5 8 (oM_0 hB).1 (oM_0 hB).2 ff_5_8.1 ff_5_8.2 fl_X5_64 dX5_branch_77 ?_
  refine jr_bind (fun q8 e9 => ?_)
  refine jr_callSI C km_X5_263 (rk hR rfl) (c_Ru_shade (gl G) (dM_34 hB) (dM_35 hB) v2 (s.1 B 8) s e9) rfl rfl rfl (Nat.le_of_ble_eq_true rfl) dX5_branch_80 ?_
  refine jr_if_eq C (tgt := 109) dX5_branch_83 (by decide) (fun h10 => ?_) (fun h10 => ?_)
  · refine jo_pos h10 ?_
    refine jr_lv [1, 2, 0] rfl ?_
    exact t_Ma_branch_J109 G hR hL C hB v2 w0 s hr
  refine jo_neg h10 ?_
  refine jr_aload_n C 1 rfl rfl dX5_branch_86 ?_
  refine jr_getR C FX_5 4 (oM_0 hB).1 (oM_0 hB).2 ff_5_4.1 ff_5_4.2 (rM_0_4 _ hB) fl_X5_35 dX5_branch_87 ?_
  refine jr_iconst C ic_1 dX5_branch_90 ?_
  refine jr_aload_n C 1 rfl rfl dX5_branch_91 ?_
  refine jr_getI C FX_5 9 (oM_0 hB).1 (oM_0 hB).2 ff_5_9.1 ff_5_9.2 fl_X5_108 dX5_branch_92 ?_
  refine jr_aload_n C 1 rfl rfl dX5_branch_95 ?_
  refine jr_getR C FX_5 6 (oM_0 hB).1 (oM_0 hB).2 ff_5_6.1 ff_5_6.2 (rM_0_6 _ hB) fl_X5_46 dX5_branch_96 ?_
  refine jr_aload_n C 1 rfl rfl dX5_branch_99 ?_
  refine jr_getR C FX_5 7 (oM_0 hB).1 (oM_0 hB).2 ff_5_7.1 ff_5_7.2 (rM_0_7 _ hB) fl_X5_50 dX5_branch_100 ?_
  refine jr_bind (fun q20 e21 => ?_)
  refine jr_callSI C km_X5_272 (rk hR rfl) (c_Ru_origin (gl G) (dM_34 hB) (dM_35 hB) s e21) rfl rfl rfl (Nat.le_of_ble_eq_true rfl) dX5_branch_103 ?_
  refine jr_bind (fun q22 e23 => ?_)
  refine jr_callVV C FX_4 km_X5_247 (oM_17 hB).1 (oM_17 hB).2 (rk hR rfl) (c_Lg_note (gl G) hB 1 (s.1 B 9) q20 s e23) rfl rfl rfl (Nat.le_of_ble_eq_true rfl) dX5_branch_106 ?_
  refine jr_lv [1, 2, 0] rfl ?_
  exact t_Ma_branch_J109 G hR hL C hB v2 w0 q22 hr
noncomputable def f_Ma_branch_J61 (B : Nat) (v2 : Int32) (s : St) : Option St :=
  f_Ma_branch_J66 B v2 1 s
set_option maxHeartbeats 4000000 in
set_option maxRecDepth 100000 in
theorem t_Ma_branch_J61 (G : GG) (hR : gR G = rmx 4 88) (hL : gL G = 5) (C : Cx SC G cX5_branch RX5) {Acc : St → Prop} {B : Nat} (hB : isM B) (v2 : Int32) (s : St) (hr : ∀ v : St, Acc v → RtV SC G cX5_branch v) : JJ SC G Acc (f_Ma_branch_J61 B v2 s) 61 [(0, .ref (ad G B)), (2, .int v2)] [] s := by
  unfold f_Ma_branch_J61
  refine jr_iconst C ic_1 dX5_branch_61 ?_
  refine jr_goto C (tgt := 66) dX5_branch_62 (by decide) ?_
  exact t_Ma_branch_J66 G hR hL C hB v2 1 s hr
noncomputable def f_Ma_branch_J42 (B : Nat) (v1 : Int32) (w0 : Int32) (s : St) : Option St :=
  if v1 = 30 then
  f_Ma_branch_J61 B w0 s
  else
  if v1 = 32 then
  f_Ma_branch_J61 B w0 s
  else
  if v1 = 34 then
  f_Ma_branch_J61 B w0 s
  else
  f_Ma_branch_J66 B w0 0 s
set_option maxHeartbeats 4000000 in
set_option maxRecDepth 100000 in
theorem t_Ma_branch_J42 (G : GG) (hR : gR G = rmx 4 88) (hL : gL G = 5) (C : Cx SC G cX5_branch RX5) {Acc : St → Prop} {B : Nat} (hB : isM B) (v1 : Int32) (w0 : Int32) (s : St) (hr : ∀ v : St, Acc v → RtV SC G cX5_branch v) : JJ SC G Acc (f_Ma_branch_J42 B v1 w0 s) 42 [(0, .ref (ad G B)), (1, .int v1)] [.int w0] s := by
  unfold f_Ma_branch_J42
  refine jr_istore_n C (lv' := [(2, .int w0), (0, .ref (ad G B)), (1, .int v1)]) (ltL hL rfl) rfl rfl dX5_branch_42 ?_
  refine jr_iload_n C 2 rfl rfl dX5_branch_43 ?_
  refine jr_bipush C bp_30 dX5_branch_44 ?_
  refine jr_icmp_eq C (tgt := 61) dX5_branch_46 (by decide) (fun h7 => ?_) (fun h7 => ?_)
  · refine jo_pos h7 ?_
    refine jr_lv [1, 0] rfl ?_
    exact t_Ma_branch_J61 G hR hL C hB w0 s hr
  refine jo_neg h7 ?_
  refine jr_iload_n C 2 rfl rfl dX5_branch_49 ?_
  refine jr_bipush C bp_32 dX5_branch_50 ?_
  refine jr_icmp_eq C (tgt := 61) dX5_branch_52 (by decide) (fun h24 => ?_) (fun h24 => ?_)
  · refine jo_pos h24 ?_
    refine jr_lv [1, 0] rfl ?_
    exact t_Ma_branch_J61 G hR hL C hB w0 s hr
  refine jo_neg h24 ?_
  refine jr_iload_n C 2 rfl rfl dX5_branch_55 ?_
  refine jr_bipush C bp_34 dX5_branch_56 ?_
  refine jr_icmp_ne C (tgt := 65) dX5_branch_58 (by decide) (fun h25 => ?_) (fun h25 => ?_)
  · refine jo_neg h25 ?_
    refine jr_iconst C ic_0 dX5_branch_65 ?_
    refine jr_lv [1, 0] rfl ?_
    exact t_Ma_branch_J66 G hR hL C hB w0 0 s hr
  refine jo_pos h25 ?_
  refine jr_lv [1, 0] rfl ?_
  exact t_Ma_branch_J61 G hR hL C hB w0 s hr
noncomputable def f_Ma_branch (B : Nat) (v1 : Int32) (s : St) : Option St :=
  (f_Ma_takeRegister B (B + 34) 0 s).bind fun q1 =>
  (f_Ma_takeEither B (B + 35) 1 q1).bind fun q3 =>
  if 30 < v1 then
  (if 32 < v1 then
  f_Ma_branch_J42 B v1 18 q3
  else
  f_Ma_branch_J42 B v1 17 q3)
  else
  f_Ma_branch_J42 B v1 15 q3
set_option maxHeartbeats 4000000 in
set_option maxRecDepth 100000 in
theorem t_Ma_branch (G : GG) (hR : gR G = rmx 4 88) (hL : gL G = 5) (C : Cx SC G cX5_branch RX5) {Acc : St → Prop} {B : Nat} (hB : isM B) (v1 : Int32) (s : St) (hr : ∀ v : St, Acc v → RtV SC G cX5_branch v) : JJ SC G Acc (f_Ma_branch B v1 s) 0 [(0, .ref (ad G B)), (1, .int v1)] [] s := by
  unfold f_Ma_branch
  refine jr_aload_n C 0 rfl rfl dX5_branch_0 ?_
  refine jr_aload_n C 0 rfl rfl dX5_branch_1 ?_
  refine jr_getR C FX_5 6 (oM_0 hB).1 (oM_0 hB).2 ff_5_6.1 ff_5_6.2 (rM_0_6 _ hB) fl_X5_46 dX5_branch_2 ?_
  refine jr_iconst C ic_0 dX5_branch_5 ?_
  refine jr_bind (fun q1 e2 => ?_)
  refine jr_callVV C FX_5 km_X5_225 (oM_0 hB).1 (oM_0 hB).2 (rk hR rfl) (c_Ma_takeRegister (gl G) hB (dM_34 hB) 0 s e2) rfl rfl rfl (Nat.le_of_ble_eq_true rfl) dX5_branch_6 ?_
  refine jr_aload_n C 0 rfl rfl dX5_branch_9 ?_
  refine jr_aload_n C 0 rfl rfl dX5_branch_10 ?_
  refine jr_getR C FX_5 7 (oM_0 hB).1 (oM_0 hB).2 ff_5_7.1 ff_5_7.2 (rM_0_7 _ hB) fl_X5_50 dX5_branch_11 ?_
  refine jr_iconst C ic_1 dX5_branch_14 ?_
  refine jr_bind (fun q3 e4 => ?_)
  refine jr_callVV C FX_5 km_X5_256 (oM_0 hB).1 (oM_0 hB).2 (rk hR rfl) (c_Ma_takeEither (gl G) hB (dM_35 hB) 1 q1 e4) rfl rfl rfl (Nat.le_of_ble_eq_true rfl) dX5_branch_15 ?_
  refine jr_iload_n C 1 rfl rfl dX5_branch_18 ?_
  refine jr_bipush C bp_30 dX5_branch_19 ?_
  refine jr_icmp_gt C (tgt := 29) dX5_branch_21 (by decide) (fun h5 => ?_) (fun h5 => ?_)
  · refine jo_pos h5 ?_
    refine jr_iload_n C 1 rfl rfl dX5_branch_29 ?_
    refine jr_bipush C bp_32 dX5_branch_30 ?_
    refine jr_icmp_gt C (tgt := 40) dX5_branch_32 (by decide) (fun h6 => ?_) (fun h6 => ?_)
    · refine jo_pos h6 ?_
      refine jr_bipush C bp_18 dX5_branch_40 ?_
      exact t_Ma_branch_J42 G hR hL C hB v1 18 q3 hr
    refine jo_neg h6 ?_
    refine jr_bipush C bp_17 dX5_branch_35 ?_
    refine jr_goto C (tgt := 42) dX5_branch_37 (by decide) ?_
    exact t_Ma_branch_J42 G hR hL C hB v1 17 q3 hr
  refine jo_neg h5 ?_
  refine jr_bipush C bp_15 dX5_branch_24 ?_
  refine jr_goto C (tgt := 42) dX5_branch_26 (by decide) ?_
  exact t_Ma_branch_J42 G hR hL C hB v1 15 q3 hr
set_option maxRecDepth 100000 in
theorem c_Ma_branch (l : Launch) {B : Nat} (hB : isM B) (v1 : Int32) (s : St) {q : St} (h : f_Ma_branch B v1 s = some q) : CT SC l yX5_branch cX5_branch 5 none 4 88 (fun a => [.ref (a B), .int v1]) s q (fun _ => none) :=
  ct_V okX_C (by decide) (fun _ => Nat.le_of_ble_eq_true rfl) (fun G hl hR hL C hr => t_Ma_branch G hR hL C (Acc := fun v => v = q) hB v1 s (fun v hv => by rw [hv]; exact hr) ⟨_, h, rfl⟩)
noncomputable def f_Ma_jump (B : Nat) (v1 : Int32) (s : St) : Option St :=
  if v1 = 35 then
  ((f_Ma_operand B 0 s).bind fun q2 =>
  lt (uI s B 10 q2) fun s4 =>
  some s4)
  else if v1 = 36 then
  (if (s.1 B 16) < 32 then
  (gd (s.1 B 16) 32 <|
  lt (uI s (B + 36) ((s.1 B 16) : Int32).toNatClampNeg (s.1 B 10)) fun s7 =>
  lt (uI s7 B 16 ((s7.1 B 16) + 1)) fun s8 =>
  (f_Ma_operand B 0 s8).bind fun q9 =>
  lt (uI s8 B 10 q9) fun s11 =>
  some s11)
  else
  (f_Ma_trap B 3 s).bind fun q12 =>
  some q12)
  else if v1 = 37 then
  (if (s.1 B 16) = 0 then
  (lt (uI s B 11 1) fun s18 =>
  some s18)
  else
  lt (uI s B 16 ((s.1 B 16) - 1)) fun s16 =>
  gd (s16.1 B 16) 32 <|
  lt (uI s16 B 10 (s16.1 (B + 36) ((s16.1 B 16) : Int32).toNatClampNeg)) fun s17 =>
  some s17)
  else lt (uI s B 11 1) fun s19 =>
  some s19
set_option maxHeartbeats 4000000 in
set_option maxRecDepth 100000 in
theorem t_Ma_jump (G : GG) (hR : gR G = rmx 2 42) (hL : gL G = 2) (C : Cx SC G cX5_jump RX5) {Acc : St → Prop} {B : Nat} (hB : isM B) (v1 : Int32) (s : St) (hr : ∀ v : St, Acc v → RtV SC G cX5_jump v) : JJ SC G Acc (f_Ma_jump B v1 s) 0 [(0, .ref (ad G B)), (1, .int v1)] [] s := by
  unfold f_Ma_jump
  refine jr_iload_n C 1 rfl rfl dX5_jump_0 ?_
  refine jo_cases (fun h1 => ?_) (fun h1 => ?_)
  · refine jr_tabIn C dX5_jump_1 h1 (by decide) (by decide) rfl (tgt := 28) (by decide) ?_
    refine jr_aload_n C 0 rfl rfl dX5_jump_28 ?_
    refine jr_aload_n C 0 rfl rfl dX5_jump_29 ?_
    refine jr_iconst C ic_0 dX5_jump_30 ?_
    refine jr_bind (fun q2 e3 => ?_)
    refine jr_callVI C FX_5 km_X5_209 (oM_0 hB).1 (oM_0 hB).2 (rk hR rfl) (c_Ma_operand (gl G) hB 0 s e3) rfl rfl rfl (Nat.le_of_ble_eq_true rfl) dX5_jump_31 ?_
    refine jr_putI C FX_5 10 (oM_0 hB).1 (oM_0 hB).2 ff_5_10.1 ff_5_10.2 rfl rfl fl_X5_119 dX5_jump_34 (jr_ltS fun s4 => ?_)
    refine jr_goto C (tgt := 134) dX5_jump_37 (by decide) ?_
    exact jr_end (fun h => hr s4 h _ _ dX5_jump_134)
  refine jo_cases (fun h5 => ?_) (fun h5 => ?_)
  · refine jr_tabIn C dX5_jump_1 h5 (by decide) (by decide) rfl (tgt := 40) (by decide) ?_
    refine jr_aload_n C 0 rfl rfl dX5_jump_40 ?_
    refine jr_getI C FX_5 16 (oM_0 hB).1 (oM_0 hB).2 ff_5_16.1 ff_5_16.2 fl_X5_96 dX5_jump_41 ?_
    refine jr_bipush C bp_32 dX5_jump_44 ?_
    refine jr_icmp_lt C (tgt := 55) dX5_jump_46 (by decide) (fun h6 => ?_) (fun h6 => ?_)
    · refine jo_pos h6 ?_
      refine jr_aload_n C 0 rfl rfl dX5_jump_55 ?_
      refine jr_getR C FX_5 15 (oM_0 hB).1 (oM_0 hB).2 ff_5_15.1 ff_5_15.2 (rM_0_15 _ hB) fl_X5_53 dX5_jump_56 ?_
      refine jr_aload_n C 0 rfl rfl dX5_jump_59 ?_
      refine jr_getI C FX_5 16 (oM_0 hB).1 (oM_0 hB).2 ff_5_16.1 ff_5_16.2 fl_X5_96 dX5_jump_60 ?_
      refine jr_aload_n C 0 rfl rfl dX5_jump_63 ?_
      refine jr_getI C FX_5 10 (oM_0 hB).1 (oM_0 hB).2 ff_5_10.1 ff_5_10.2 fl_X5_119 dX5_jump_64 ?_
      refine jr_iast C (oM_36 hB).1 (oM_36 hB).2.1 (oM_36 hB).2.2 dX5_jump_67 (jr_ltS fun s7 => ?_)
      refine jr_aload_n C 0 rfl rfl dX5_jump_68 ?_
      refine jr_dup C rfl dX5_jump_69 ?_
      refine jr_getI C FX_5 16 (oM_0 hB).1 (oM_0 hB).2 ff_5_16.1 ff_5_16.2 fl_X5_96 dX5_jump_70 ?_
      refine jr_iconst C ic_1 dX5_jump_73 ?_
      refine jr_iadd C dX5_jump_74 ?_
      refine jr_putI C FX_5 16 (oM_0 hB).1 (oM_0 hB).2 ff_5_16.1 ff_5_16.2 rfl rfl fl_X5_96 dX5_jump_75 (jr_ltS fun s8 => ?_)
      refine jr_aload_n C 0 rfl rfl dX5_jump_78 ?_
      refine jr_aload_n C 0 rfl rfl dX5_jump_79 ?_
      refine jr_iconst C ic_0 dX5_jump_80 ?_
      refine jr_bind (fun q9 e10 => ?_)
      refine jr_callVI C FX_5 km_X5_209 (oM_0 hB).1 (oM_0 hB).2 (rk hR rfl) (c_Ma_operand (gl G) hB 0 s8 e10) rfl rfl rfl (Nat.le_of_ble_eq_true rfl) dX5_jump_81 ?_
      refine jr_putI C FX_5 10 (oM_0 hB).1 (oM_0 hB).2 ff_5_10.1 ff_5_10.2 rfl rfl fl_X5_119 dX5_jump_84 (jr_ltS fun s11 => ?_)
      refine jr_goto C (tgt := 134) dX5_jump_87 (by decide) ?_
      exact jr_end (fun h => hr s11 h _ _ dX5_jump_134)
    refine jo_neg h6 ?_
    refine jr_aload_n C 0 rfl rfl dX5_jump_49 ?_
    refine jr_iconst C ic_3 dX5_jump_50 ?_
    refine jr_bind (fun q12 e13 => ?_)
    refine jr_callVV C FX_5 km_X5_229 (oM_0 hB).1 (oM_0 hB).2 (rk hR rfl) (c_Ma_trap (gl G) hB 3 s e13) rfl rfl rfl (Nat.le_of_ble_eq_true rfl) dX5_jump_51 ?_
    exact jr_end (fun h => hr q12 h _ _ dX5_jump_54)
  refine jo_cases (fun h14 => ?_) (fun h14 => ?_)
  · refine jr_tabIn C dX5_jump_1 h14 (by decide) (by decide) rfl (tgt := 90) (by decide) ?_
    refine jr_aload_n C 0 rfl rfl dX5_jump_90 ?_
    refine jr_getI C FX_5 16 (oM_0 hB).1 (oM_0 hB).2 ff_5_16.1 ff_5_16.2 fl_X5_96 dX5_jump_91 ?_
    refine jr_if_ne C (tgt := 103) dX5_jump_94 (by decide) (fun h15 => ?_) (fun h15 => ?_)
    · refine jo_neg h15 ?_
      refine jr_aload_n C 0 rfl rfl dX5_jump_103 ?_
      refine jr_dup C rfl dX5_jump_104 ?_
      refine jr_getI C FX_5 16 (oM_0 hB).1 (oM_0 hB).2 ff_5_16.1 ff_5_16.2 fl_X5_96 dX5_jump_105 ?_
      refine jr_iconst C ic_1 dX5_jump_108 ?_
      refine jr_isub C dX5_jump_109 ?_
      refine jr_putI C FX_5 16 (oM_0 hB).1 (oM_0 hB).2 ff_5_16.1 ff_5_16.2 rfl rfl fl_X5_96 dX5_jump_110 (jr_ltS fun s16 => ?_)
      refine jr_aload_n C 0 rfl rfl dX5_jump_113 ?_
      refine jr_aload_n C 0 rfl rfl dX5_jump_114 ?_
      refine jr_getR C FX_5 15 (oM_0 hB).1 (oM_0 hB).2 ff_5_15.1 ff_5_15.2 (rM_0_15 _ hB) fl_X5_53 dX5_jump_115 ?_
      refine jr_aload_n C 0 rfl rfl dX5_jump_118 ?_
      refine jr_getI C FX_5 16 (oM_0 hB).1 (oM_0 hB).2 ff_5_16.1 ff_5_16.2 fl_X5_96 dX5_jump_119 ?_
      refine jr_iald C (oM_36 hB).1 (oM_36 hB).2.1 (oM_36 hB).2.2 dX5_jump_122 ?_
      refine jr_putI C FX_5 10 (oM_0 hB).1 (oM_0 hB).2 ff_5_10.1 ff_5_10.2 rfl rfl fl_X5_119 dX5_jump_123 (jr_ltS fun s17 => ?_)
      refine jr_goto C (tgt := 134) dX5_jump_126 (by decide) ?_
      exact jr_end (fun h => hr s17 h _ _ dX5_jump_134)
    refine jo_pos h15 ?_
    refine jr_aload_n C 0 rfl rfl dX5_jump_97 ?_
    refine jr_iconst C ic_1 dX5_jump_98 ?_
    refine jr_putI C FX_5 11 (oM_0 hB).1 (oM_0 hB).2 ff_5_11.1 ff_5_11.2 rfl rfl fl_X5_102 dX5_jump_99 (jr_ltS fun s18 => ?_)
    exact jr_end (fun h => hr s18 h _ _ dX5_jump_102)
  refine jr_tabOut C dX5_jump_1 (by have e0 := lv_neT h1 (a := 35) (by decide); have e1 := lv_neT h5 (a := 36) (by decide); have e2 := lv_neT h14 (a := 37) (by decide); omega) (tgt := 129) (by decide) ?_
  refine jr_aload_n C 0 rfl rfl dX5_jump_129 ?_
  refine jr_iconst C ic_1 dX5_jump_130 ?_
  refine jr_putI C FX_5 11 (oM_0 hB).1 (oM_0 hB).2 ff_5_11.1 ff_5_11.2 rfl rfl fl_X5_102 dX5_jump_131 (jr_ltS fun s19 => ?_)
  exact jr_end (fun h => hr s19 h _ _ dX5_jump_134)
set_option maxRecDepth 100000 in
theorem c_Ma_jump (l : Launch) {B : Nat} (hB : isM B) (v1 : Int32) (s : St) {q : St} (h : f_Ma_jump B v1 s = some q) : CT SC l yX5_jump cX5_jump 2 none 2 42 (fun a => [.ref (a B), .int v1]) s q (fun _ => none) :=
  ct_V okX_C (by decide) (fun _ => Nat.le_of_ble_eq_true rfl) (fun G hl hR hL C hr => t_Ma_jump G hR hL C (Acc := fun v => v = q) hB v1 s (fun v hv => by rw [hv]; exact hr) ⟨_, h, rfl⟩)
noncomputable def f_Ma_performPlain (B : Nat) (v1 : Int32) (s : St) : Option St :=
  if 20 < v1 then
  (if 25 < v1 then
  (if 28 < v1 then
  (if 34 < v1 then
  ((f_Ma_jump B v1 s).bind fun q5 =>
  some q5)
  else
  (f_Ma_branch B v1 s).bind fun q7 =>
  some q7)
  else
  (f_Ma_store B v1 s).bind fun q9 =>
  some q9)
  else
  (f_Ma_load B v1 s).bind fun q11 =>
  some q11)
  else
  (f_Ma_compute B v1 s).bind fun q13 =>
  some q13
set_option maxHeartbeats 4000000 in
set_option maxRecDepth 100000 in
theorem t_Ma_performPlain (G : GG) (hR : gR G = rmx 5 122) (hL : gL G = 2) (C : Cx SC G cX5_performPlain RX5) {Acc : St → Prop} {B : Nat} (hB : isM B) (v1 : Int32) (s : St) (hr : ∀ v : St, Acc v → RtV SC G cX5_performPlain v) : JJ SC G Acc (f_Ma_performPlain B v1 s) 0 [(0, .ref (ad G B)), (1, .int v1)] [] s := by
  unfold f_Ma_performPlain
  refine jr_iload_n C 1 rfl rfl dX5_performPlain_0 ?_
  refine jr_bipush C bp_20 dX5_performPlain_1 ?_
  refine jr_icmp_gt C (tgt := 14) dX5_performPlain_3 (by decide) (fun h1 => ?_) (fun h1 => ?_)
  · refine jo_pos h1 ?_
    refine jr_iload_n C 1 rfl rfl dX5_performPlain_14 ?_
    refine jr_bipush C bp_25 dX5_performPlain_15 ?_
    refine jr_icmp_gt C (tgt := 28) dX5_performPlain_17 (by decide) (fun h2 => ?_) (fun h2 => ?_)
    · refine jo_pos h2 ?_
      refine jr_iload_n C 1 rfl rfl dX5_performPlain_28 ?_
      refine jr_bipush C bp_28 dX5_performPlain_29 ?_
      refine jr_icmp_gt C (tgt := 42) dX5_performPlain_31 (by decide) (fun h3 => ?_) (fun h3 => ?_)
      · refine jo_pos h3 ?_
        refine jr_iload_n C 1 rfl rfl dX5_performPlain_42 ?_
        refine jr_bipush C bp_34 dX5_performPlain_43 ?_
        refine jr_icmp_gt C (tgt := 56) dX5_performPlain_45 (by decide) (fun h4 => ?_) (fun h4 => ?_)
        · refine jo_pos h4 ?_
          refine jr_aload_n C 0 rfl rfl dX5_performPlain_56 ?_
          refine jr_iload_n C 1 rfl rfl dX5_performPlain_57 ?_
          refine jr_bind (fun q5 e6 => ?_)
          refine jr_callVV C FX_5 km_X5_170 (oM_0 hB).1 (oM_0 hB).2 (rk hR rfl) (c_Ma_jump (gl G) hB v1 s e6) rfl rfl rfl (Nat.le_of_ble_eq_true rfl) dX5_performPlain_58 ?_
          exact jr_end (fun h => hr q5 h _ _ dX5_performPlain_61)
        refine jo_neg h4 ?_
        refine jr_aload_n C 0 rfl rfl dX5_performPlain_48 ?_
        refine jr_iload_n C 1 rfl rfl dX5_performPlain_49 ?_
        refine jr_bind (fun q7 e8 => ?_)
        refine jr_callVV C FX_5 km_X5_167 (oM_0 hB).1 (oM_0 hB).2 (rk hR rfl) (c_Ma_branch (gl G) hB v1 s e8) rfl rfl rfl (Nat.le_of_ble_eq_true rfl) dX5_performPlain_50 ?_
        refine jr_goto C (tgt := 61) dX5_performPlain_53 (by decide) ?_
        exact jr_end (fun h => hr q7 h _ _ dX5_performPlain_61)
      refine jo_neg h3 ?_
      refine jr_aload_n C 0 rfl rfl dX5_performPlain_34 ?_
      refine jr_iload_n C 1 rfl rfl dX5_performPlain_35 ?_
      refine jr_bind (fun q9 e10 => ?_)
      refine jr_callVV C FX_5 km_X5_164 (oM_0 hB).1 (oM_0 hB).2 (rk hR rfl) (c_Ma_store (gl G) hB v1 s e10) rfl rfl rfl (Nat.le_of_ble_eq_true rfl) dX5_performPlain_36 ?_
      refine jr_goto C (tgt := 61) dX5_performPlain_39 (by decide) ?_
      exact jr_end (fun h => hr q9 h _ _ dX5_performPlain_61)
    refine jo_neg h2 ?_
    refine jr_aload_n C 0 rfl rfl dX5_performPlain_20 ?_
    refine jr_iload_n C 1 rfl rfl dX5_performPlain_21 ?_
    refine jr_bind (fun q11 e12 => ?_)
    refine jr_callVV C FX_5 km_X5_161 (oM_0 hB).1 (oM_0 hB).2 (rk hR rfl) (c_Ma_load (gl G) hB v1 s e12) rfl rfl rfl (Nat.le_of_ble_eq_true rfl) dX5_performPlain_22 ?_
    refine jr_goto C (tgt := 61) dX5_performPlain_25 (by decide) ?_
    exact jr_end (fun h => hr q11 h _ _ dX5_performPlain_61)
  refine jo_neg h1 ?_
  refine jr_aload_n C 0 rfl rfl dX5_performPlain_6 ?_
  refine jr_iload_n C 1 rfl rfl dX5_performPlain_7 ?_
  refine jr_bind (fun q13 e14 => ?_)
  refine jr_callVV C FX_5 km_X5_158 (oM_0 hB).1 (oM_0 hB).2 (rk hR rfl) (c_Ma_compute (gl G) hB v1 s e14) rfl rfl rfl (Nat.le_of_ble_eq_true rfl) dX5_performPlain_8 ?_
  refine jr_goto C (tgt := 61) dX5_performPlain_11 (by decide) ?_
  exact jr_end (fun h => hr q13 h _ _ dX5_performPlain_61)
set_option maxRecDepth 100000 in
theorem c_Ma_performPlain (l : Launch) {B : Nat} (hB : isM B) (v1 : Int32) (s : St) {q : St} (h : f_Ma_performPlain B v1 s = some q) : CT SC l yX5_performPlain cX5_performPlain 2 none 5 122 (fun a => [.ref (a B), .int v1]) s q (fun _ => none) :=
  ct_V okX_C (by decide) (fun _ => Nat.le_of_ble_eq_true rfl) (fun G hl hR hL C hr => t_Ma_performPlain G hR hL C (Acc := fun v => v = q) hB v1 s (fun v hv => by rw [hv]; exact hr) ⟨_, h, rfl⟩)
noncomputable def f_Ma_push (B : Nat) (s : St) : Option St :=
  gd 7 8 <|
  lt ((s.1 (B + 26 + (7 : Int32).toNatClampNeg) 0) - 4) fun x2 =>
  (f_Ma_takeRegister B (B + 34) 0 s).bind fun q3 =>
  (f_Ma_reportShade B (B + 26 + (7 : Int32).toNatClampNeg) 2 q3).bind fun q5 =>
  (f_Ma_give B 7 x2 (q5.1 (B + 26 + (7 : Int32).toNatClampNeg) 1) 0 q5).bind fun q7 =>
  if (q7.1 B 11) = 0 then
  ((f_Ma_isValid B x2 4 q7).bind fun q10 =>
  if q10.1 = 0 then
  some (q10.2)
  else
  (f_Me_write B (B + 34) x2 4 (q10.2)).bind fun q13 =>
  some q13)
  else
  some q7
set_option maxHeartbeats 4000000 in
set_option maxRecDepth 100000 in
theorem t_Ma_push (G : GG) (hR : gR G = rmx 4 99) (hL : gL G = 3) (C : Cx SC G cX5_push RX5) {Acc : St → Prop} {B : Nat} (hB : isM B)  (s : St) (hr : ∀ v : St, Acc v → RtV SC G cX5_push v) : JJ SC G Acc (f_Ma_push B s) 0 [(0, .ref (ad G B))] [] s := by
  unfold f_Ma_push
  refine jr_aload_n C 0 rfl rfl dX5_push_0 ?_
  refine jr_getR C FX_5 5 (oM_0 hB).1 (oM_0 hB).2 ff_5_5.1 ff_5_5.2 (rM_0_5 _ hB) fl_X5_41 dX5_push_1 ?_
  refine jr_bipush C bp_7 dX5_push_4 ?_
  refine jr_aald C (oM_25 hB).1 (oM_25 hB).2.1 (oM_25 hB).2.2 (fun _ => rM_r _ hB) dX5_push_6 (fun h1 => ?_)
  refine jr_astore_n C (lv' := [(1, .ref (ad G (B + 26 + (7 : Int32).toNatClampNeg))), (0, .ref (ad G B))]) (ltL hL rfl) rfl rfl dX5_push_7 ?_
  refine jr_aload_n C 0 rfl rfl dX5_push_8 ?_
  refine jr_getI C FX_1 0 (oD (dM_r hB h1)).1 (oD (dM_r hB h1)).2 ff_1_0.1 ff_1_0.2 fl_X5_232 dX5_push_9 ?_
  refine jr_iconst C ic_4 dX5_push_12 ?_
  refine jr_isub C dX5_push_13 ?_
  refine jr_ltI (fun x2 => ?_)
  refine jr_istore_n C (lv' := [(2, .int x2), (1, .ref (ad G (B + 26 + (7 : Int32).toNatClampNeg))), (0, .ref (ad G B))]) (ltL hL rfl) rfl rfl dX5_push_14 ?_
  refine jr_aload_n C 2 rfl rfl dX5_push_15 ?_
  refine jr_aload_n C 2 rfl rfl dX5_push_16 ?_
  refine jr_getR C FX_5 6 (oM_0 hB).1 (oM_0 hB).2 ff_5_6.1 ff_5_6.2 (rM_0_6 _ hB) fl_X5_46 dX5_push_17 ?_
  refine jr_iconst C ic_0 dX5_push_20 ?_
  refine jr_bind (fun q3 e4 => ?_)
  refine jr_callVV C FX_5 km_X5_225 (oM_0 hB).1 (oM_0 hB).2 (rk hR rfl) (c_Ma_takeRegister (gl G) hB (dM_34 hB) 0 s e4) rfl rfl rfl (Nat.le_of_ble_eq_true rfl) dX5_push_21 ?_
  refine jr_aload_n C 2 rfl rfl dX5_push_24 ?_
  refine jr_iconst C ic_2 dX5_push_25 ?_
  refine jr_aload_n C 1 rfl rfl dX5_push_26 ?_
  refine jr_bind (fun q5 e6 => ?_)
  refine jr_callVV C FX_5 km_X5_259 (oM_0 hB).1 (oM_0 hB).2 (rk hR rfl) (c_Ma_reportShade (gl G) hB (dM_r hB h1) 2 q3 e6) rfl rfl rfl (Nat.le_of_ble_eq_true rfl) dX5_push_27 ?_
  refine jr_aload_n C 2 rfl rfl dX5_push_30 ?_
  refine jr_bipush C bp_7 dX5_push_31 ?_
  refine jr_iload_n C 0 rfl rfl dX5_push_33 ?_
  refine jr_aload_n C 1 rfl rfl dX5_push_34 ?_
  refine jr_getI C FX_1 1 (oD (dM_r hB h1)).1 (oD (dM_r hB h1)).2 ff_1_1.1 ff_1_1.2 fl_X5_241 dX5_push_35 ?_
  refine jr_iconst C ic_0 dX5_push_38 ?_
  refine jr_bind (fun q7 e8 => ?_)
  refine jr_callVV C FX_5 km_X5_275 (oM_0 hB).1 (oM_0 hB).2 (rk hR rfl) (c_Ma_give (gl G) hB 7 x2 (q5.1 (B + 26 + (7 : Int32).toNatClampNeg) 1) 0 q5 e8) rfl rfl rfl (Nat.le_of_ble_eq_true rfl) dX5_push_39 ?_
  refine jr_aload_n C 2 rfl rfl dX5_push_42 ?_
  refine jr_getI C FX_5 11 (oM_0 hB).1 (oM_0 hB).2 ff_5_11.1 ff_5_11.2 fl_X5_102 dX5_push_43 ?_
  refine jr_if_ne C (tgt := 71) dX5_push_46 (by decide) (fun h9 => ?_) (fun h9 => ?_)
  · refine jo_neg h9 ?_
    exact jr_end (fun h => hr q7 h _ _ dX5_push_71)
  refine jo_pos h9 ?_
  refine jr_aload_n C 2 rfl rfl dX5_push_49 ?_
  refine jr_iload_n C 0 rfl rfl dX5_push_50 ?_
  refine jr_iconst C ic_4 dX5_push_51 ?_
  refine jr_bind (fun q10 e11 => ?_)
  refine jr_callVI C FX_5 km_X5_279 (oM_0 hB).1 (oM_0 hB).2 (rk hR rfl) (c_Ma_isValid (gl G) hB x2 4 q7 e11) rfl rfl rfl (Nat.le_of_ble_eq_true rfl) dX5_push_52 ?_
  refine jr_if_eq C (tgt := 71) dX5_push_55 (by decide) (fun h12 => ?_) (fun h12 => ?_)
  · refine jo_pos h12 ?_
    exact jr_end (fun h => hr (q10.2) h _ _ dX5_push_71)
  refine jo_neg h12 ?_
  refine jr_aload_n C 2 rfl rfl dX5_push_58 ?_
  refine jr_getR C FX_5 1 (oM_0 hB).1 (oM_0 hB).2 ff_5_1.1 ff_5_1.2 (rM_0_1 _ hB) fl_X5_12 dX5_push_59 ?_
  refine jr_aload_n C 2 rfl rfl dX5_push_62 ?_
  refine jr_getR C FX_5 6 (oM_0 hB).1 (oM_0 hB).2 ff_5_6.1 ff_5_6.2 (rM_0_6 _ hB) fl_X5_46 dX5_push_63 ?_
  refine jr_iload_n C 0 rfl rfl dX5_push_66 ?_
  refine jr_iconst C ic_4 dX5_push_67 ?_
  refine jr_bind (fun q13 e14 => ?_)
  refine jr_callVV C FX_6 km_X5_293 (oM_1 hB).1 (oM_1 hB).2 (rk hR rfl) (c_Me_write (gl G) hB (dM_34 hB) x2 4 (q10.2) e14) rfl rfl rfl (Nat.le_of_ble_eq_true rfl) dX5_push_68 ?_
  exact jr_end (fun h => hr q13 h _ _ dX5_push_71)
set_option maxRecDepth 100000 in
theorem c_Ma_push (l : Launch) {B : Nat} (hB : isM B)  (s : St) {q : St} (h : f_Ma_push B s = some q) : CT SC l yX5_push cX5_push 3 none 4 99 (fun a => [.ref (a B)]) s q (fun _ => none) :=
  ct_V okX_C (by decide) (fun _ => Nat.le_of_ble_eq_true rfl) (fun G hl hR hL C hr => t_Ma_push G hR hL C (Acc := fun v => v = q) hB  s (fun v hv => by rw [hv]; exact hr) ⟨_, h, rfl⟩)
noncomputable def f_Ma_pop (B : Nat) (s : St) : Option St :=
  gd 7 8 <|
  (f_Ma_loadBytes B (B + 26 + (7 : Int32).toNatClampNeg) 0 4 s).bind fun q2 =>
  (f_Ma_operand B 0 q2).bind fun q4 =>
  (f_Ma_give B q4 (q2.1 (B + 34) 0) (q2.1 (B + 34) 1) (q2.1 (B + 34) 2) q2).bind fun q6 =>
  (f_Ma_operand B 0 q6).bind fun q8 =>
  if q8 = 7 then
  some q6
  else
  (f_Ma_give B 7 ((q6.1 (B + 26 + (7 : Int32).toNatClampNeg) 0) + 4) (q6.1 (B + 26 + (7 : Int32).toNatClampNeg) 1) 0 q6).bind fun q11 =>
  some q11
set_option maxHeartbeats 4000000 in
set_option maxRecDepth 100000 in
theorem t_Ma_pop (G : GG) (hR : gR G = rmx 4 99) (hL : gL G = 2) (C : Cx SC G cX5_pop RX5) {Acc : St → Prop} {B : Nat} (hB : isM B)  (s : St) (hr : ∀ v : St, Acc v → RtV SC G cX5_pop v) : JJ SC G Acc (f_Ma_pop B s) 0 [(0, .ref (ad G B))] [] s := by
  unfold f_Ma_pop
  refine jr_aload_n C 0 rfl rfl dX5_pop_0 ?_
  refine jr_getR C FX_5 5 (oM_0 hB).1 (oM_0 hB).2 ff_5_5.1 ff_5_5.2 (rM_0_5 _ hB) fl_X5_41 dX5_pop_1 ?_
  refine jr_bipush C bp_7 dX5_pop_4 ?_
  refine jr_aald C (oM_25 hB).1 (oM_25 hB).2.1 (oM_25 hB).2.2 (fun _ => rM_r _ hB) dX5_pop_6 (fun h1 => ?_)
  refine jr_astore_n C (lv' := [(1, .ref (ad G (B + 26 + (7 : Int32).toNatClampNeg))), (0, .ref (ad G B))]) (ltL hL rfl) rfl rfl dX5_pop_7 ?_
  refine jr_aload_n C 1 rfl rfl dX5_pop_8 ?_
  refine jr_aload_n C 0 rfl rfl dX5_pop_9 ?_
  refine jr_iconst C ic_0 dX5_pop_10 ?_
  refine jr_iconst C ic_4 dX5_pop_11 ?_
  refine jr_bind (fun q2 e3 => ?_)
  refine jr_callVV C FX_5 km_X5_290 (oM_0 hB).1 (oM_0 hB).2 (rk hR rfl) (c_Ma_loadBytes (gl G) hB (dM_r hB h1) 0 4 s e3) rfl rfl rfl (Nat.le_of_ble_eq_true rfl) dX5_pop_12 ?_
  refine jr_aload_n C 1 rfl rfl dX5_pop_15 ?_
  refine jr_aload_n C 1 rfl rfl dX5_pop_16 ?_
  refine jr_iconst C ic_0 dX5_pop_17 ?_
  refine jr_bind (fun q4 e5 => ?_)
  refine jr_callVI C FX_5 km_X5_209 (oM_0 hB).1 (oM_0 hB).2 (rk hR rfl) (c_Ma_operand (gl G) hB 0 q2 e5) rfl rfl rfl (Nat.le_of_ble_eq_true rfl) dX5_pop_18 ?_
  refine jr_aload_n C 1 rfl rfl dX5_pop_21 ?_
  refine jr_getR C FX_5 6 (oM_0 hB).1 (oM_0 hB).2 ff_5_6.1 ff_5_6.2 (rM_0_6 _ hB) fl_X5_46 dX5_pop_22 ?_
  refine jr_getI C FX_1 0 (oD (dM_34 hB)).1 (oD (dM_34 hB)).2 ff_1_0.1 ff_1_0.2 fl_X5_232 dX5_pop_25 ?_
  refine jr_aload_n C 1 rfl rfl dX5_pop_28 ?_
  refine jr_getR C FX_5 6 (oM_0 hB).1 (oM_0 hB).2 ff_5_6.1 ff_5_6.2 (rM_0_6 _ hB) fl_X5_46 dX5_pop_29 ?_
  refine jr_getI C FX_1 1 (oD (dM_34 hB)).1 (oD (dM_34 hB)).2 ff_1_1.1 ff_1_1.2 fl_X5_241 dX5_pop_32 ?_
  refine jr_aload_n C 1 rfl rfl dX5_pop_35 ?_
  refine jr_getR C FX_5 6 (oM_0 hB).1 (oM_0 hB).2 ff_5_6.1 ff_5_6.2 (rM_0_6 _ hB) fl_X5_46 dX5_pop_36 ?_
  refine jr_getI C FX_1 2 (oD (dM_34 hB)).1 (oD (dM_34 hB)).2 ff_1_2.1 ff_1_2.2 fl_X5_244 dX5_pop_39 ?_
  refine jr_bind (fun q6 e7 => ?_)
  refine jr_callVV C FX_5 km_X5_275 (oM_0 hB).1 (oM_0 hB).2 (rk hR rfl) (c_Ma_give (gl G) hB q4 (q2.1 (B + 34) 0) (q2.1 (B + 34) 1) (q2.1 (B + 34) 2) q2 e7) rfl rfl rfl (Nat.le_of_ble_eq_true rfl) dX5_pop_42 ?_
  refine jr_aload_n C 1 rfl rfl dX5_pop_45 ?_
  refine jr_iconst C ic_0 dX5_pop_46 ?_
  refine jr_bind (fun q8 e9 => ?_)
  refine jr_callVI C FX_5 km_X5_209 (oM_0 hB).1 (oM_0 hB).2 (rk hR rfl) (c_Ma_operand (gl G) hB 0 q6 e9) rfl rfl rfl (Nat.le_of_ble_eq_true rfl) dX5_pop_47 ?_
  refine jr_bipush C bp_7 dX5_pop_50 ?_
  refine jr_icmp_eq C (tgt := 72) dX5_pop_52 (by decide) (fun h10 => ?_) (fun h10 => ?_)
  · refine jo_pos h10 ?_
    exact jr_end (fun h => hr q6 h _ _ dX5_pop_72)
  refine jo_neg h10 ?_
  refine jr_aload_n C 1 rfl rfl dX5_pop_55 ?_
  refine jr_bipush C bp_7 dX5_pop_56 ?_
  refine jr_aload_n C 0 rfl rfl dX5_pop_58 ?_
  refine jr_getI C FX_1 0 (oD (dM_r hB h1)).1 (oD (dM_r hB h1)).2 ff_1_0.1 ff_1_0.2 fl_X5_232 dX5_pop_59 ?_
  refine jr_iconst C ic_4 dX5_pop_62 ?_
  refine jr_iadd C dX5_pop_63 ?_
  refine jr_aload_n C 0 rfl rfl dX5_pop_64 ?_
  refine jr_getI C FX_1 1 (oD (dM_r hB h1)).1 (oD (dM_r hB h1)).2 ff_1_1.1 ff_1_1.2 fl_X5_241 dX5_pop_65 ?_
  refine jr_iconst C ic_0 dX5_pop_68 ?_
  refine jr_bind (fun q11 e12 => ?_)
  refine jr_callVV C FX_5 km_X5_275 (oM_0 hB).1 (oM_0 hB).2 (rk hR rfl) (c_Ma_give (gl G) hB 7 ((q6.1 (B + 26 + (7 : Int32).toNatClampNeg) 0) + 4) (q6.1 (B + 26 + (7 : Int32).toNatClampNeg) 1) 0 q6 e12) rfl rfl rfl (Nat.le_of_ble_eq_true rfl) dX5_pop_69 ?_
  exact jr_end (fun h => hr q11 h _ _ dX5_pop_72)
set_option maxRecDepth 100000 in
theorem c_Ma_pop (l : Launch) {B : Nat} (hB : isM B)  (s : St) {q : St} (h : f_Ma_pop B s = some q) : CT SC l yX5_pop cX5_pop 2 none 4 99 (fun a => [.ref (a B)]) s q (fun _ => none) :=
  ct_V okX_C (by decide) (fun _ => Nat.le_of_ble_eq_true rfl) (fun G hl hR hL C hr => t_Ma_pop G hR hL C (Acc := fun v => v = q) hB  s (fun v hv => by rw [hv]; exact hr) ⟨_, h, rfl⟩)
noncomputable def f_He_unitsOf (v0 : Int32) : Int32 :=
  (2 + (((v0 + 8) - 1) / 8))
set_option maxHeartbeats 4000000 in
set_option maxRecDepth 100000 in
theorem t_He_unitsOf (G : GG) (hR : gR G = rmx 0 0) (hL : gL G = 1) (C : Cx SC G cX2_unitsOf RX2) {Acc : Int32 → Prop} {B : Nat} (hB : isM B) (v0 : Int32) (s : St) (hr : ∀ v : Int32, Acc v → RtI SC G cX2_unitsOf v s) : JJ SC G Acc (some (f_He_unitsOf v0)) 0 [(0, .int v0)] [] s := by
  unfold f_He_unitsOf
  refine jr_iconst C ic_2 dX2_unitsOf_0 ?_
  refine jr_iload_n C 0 rfl rfl dX2_unitsOf_1 ?_
  refine jr_bipush C bp_8 dX2_unitsOf_2 ?_
  refine jr_iadd C dX2_unitsOf_4 ?_
  refine jr_iconst C ic_1 dX2_unitsOf_5 ?_
  refine jr_isub C dX2_unitsOf_6 ?_
  refine jr_bipush C bp_8 dX2_unitsOf_7 ?_
  refine jr_idiv C (by decide) dX2_unitsOf_9 ?_
  refine jr_iadd C dX2_unitsOf_10 ?_
  exact jr_end (fun h => hr (2 + (((v0 + 8) - 1) / 8)) h _ _ dX2_unitsOf_11)
set_option maxRecDepth 100000 in
theorem c_He_unitsOf (l : Launch) {B : Nat} (hB : isM B) (v0 : Int32) (s : St) : CT SC l yX2_unitsOf cX2_unitsOf 1 (some .int) 0 0 (fun a => [.int v0]) s s (fun _ => some (.int (f_He_unitsOf v0))) :=
  ct_I okX_C (by decide) (fun _ => Nat.le_of_ble_eq_true rfl) (fun G hl hR hL C hr => t_He_unitsOf G hR hL C (Acc := fun v => v = (f_He_unitsOf v0)) hB v0 s (fun v hv => by rw [hv]; exact hr) ⟨_, rfl, rfl⟩)
noncomputable def f_He_firstFree_J27_1 (B : Nat) (v1 : Int32) (v3 : Int32) (w0 : Int32) (s : St) : Option ((Int32 × Int32) ⊕ ((Int32 × Int32) ⊕ Int32)) :=
  if w0 = v1 then
  some (.inr (.inr ((v3 - v1) + 1)))
  else
  some (.inl (w0, (v3 + 1)))
set_option maxHeartbeats 4000000 in
set_option maxRecDepth 100000 in
theorem t_He_firstFree_J27_1 (G : GG) (hR : gR G = rmx 0 0) (hL : gL G = 4) (C : Cx SC G cX2_firstFree RX2) {Acc : ((Int32 × Int32) ⊕ ((Int32 × Int32) ⊕ Int32)) → Prop} {B : Nat} (hB : isM B) (v1 : Int32) (v3 : Int32) (w0 : Int32) (s : St) (hb1 : ∀ (a2 : Int32) (a3 : Int32), Acc (.inl (a2, a3)) → KK SC G 4 [(0, .ref (ad G (B + 6))), (1, .int v1), (2, .int a2), (3, .int a3)] [] s) (hx1 : ∀ (a2 : Int32) (a3 : Int32), Acc (.inr (.inl (a2, a3))) → KK SC G 45 [(0, .ref (ad G (B + 6))), (1, .int v1), (2, .int a2), (3, .int a3)] [] s) (hr : ∀ v : Int32, Acc (.inr (.inr v)) → RtI SC G cX2_firstFree v s) : JJ SC G Acc (f_He_firstFree_J27_1 B v1 v3 w0 s) 27 [(0, .ref (ad G (B + 6))), (1, .int v1), (3, .int v3)] [.int w0] s := by
  unfold f_He_firstFree_J27_1
  refine jr_istore_n C (lv' := [(2, .int w0), (0, .ref (ad G (B + 6))), (1, .int v1), (3, .int v3)]) (ltL hL rfl) rfl rfl dX2_firstFree_27 ?_
  refine jr_iload_n C 0 rfl rfl dX2_firstFree_28 ?_
  refine jr_iload_n C 2 rfl rfl dX2_firstFree_29 ?_
  refine jr_icmp_ne C (tgt := 39) dX2_firstFree_30 (by decide) (fun h3 => ?_) (fun h3 => ?_)
  · refine jo_neg h3 ?_
    refine jr_iinc C 3 rfl ii_1 (lv' := [(3, .int (v3 + 1)), (2, .int w0), (0, .ref (ad G (B + 6))), (1, .int v1)]) (ltL hL rfl) rfl dX2_firstFree_39 ?_
    refine jr_goto C (tgt := 4) dX2_firstFree_42 (by decide) ?_
    refine jr_lv [2, 3, 1, 0] rfl ?_
    exact jr_end (fun h => hb1 w0 (v3 + 1) h)
  refine jo_pos h3 ?_
  refine jr_iload_n C 3 rfl rfl dX2_firstFree_33 ?_
  refine jr_iload_n C 2 rfl rfl dX2_firstFree_34 ?_
  refine jr_isub C dX2_firstFree_35 ?_
  refine jr_iconst C ic_1 dX2_firstFree_36 ?_
  refine jr_iadd C dX2_firstFree_37 ?_
  exact jr_end (fun h => hr ((v3 - v1) + 1) h _ _ dX2_firstFree_38)
noncomputable def f_He_firstFree_L4 (B : Nat) (v1 : Int32) (v2 : Int32) (v3 : Int32) (s : St) : Option ((Int32 × Int32) ⊕ ((Int32 × Int32) ⊕ Int32)) :=
  if 256 ≤ v3 then
  some (.inr (.inl (v2, v3)))
  else
  gd v3 256 <|
  if (s.1 (B + 12) (v3 : Int32).toNatClampNeg) = 0 then
  f_He_firstFree_J27_1 B v1 v3 (v2 + 1) s
  else
  f_He_firstFree_J27_1 B v1 v3 0 s
set_option maxHeartbeats 4000000 in
set_option maxRecDepth 100000 in
theorem t_He_firstFree_L4 (G : GG) (hR : gR G = rmx 0 0) (hL : gL G = 4) (C : Cx SC G cX2_firstFree RX2) {Acc : ((Int32 × Int32) ⊕ ((Int32 × Int32) ⊕ Int32)) → Prop} {B : Nat} (hB : isM B) (v1 : Int32) (v2 : Int32) (v3 : Int32) (s : St) (hb1 : ∀ (a2 : Int32) (a3 : Int32), Acc (.inl (a2, a3)) → KK SC G 4 [(0, .ref (ad G (B + 6))), (1, .int v1), (2, .int a2), (3, .int a3)] [] s) (hx1 : ∀ (a2 : Int32) (a3 : Int32), Acc (.inr (.inl (a2, a3))) → KK SC G 45 [(0, .ref (ad G (B + 6))), (1, .int v1), (2, .int a2), (3, .int a3)] [] s) (hr : ∀ v : Int32, Acc (.inr (.inr v)) → RtI SC G cX2_firstFree v s) : JJ SC G Acc (f_He_firstFree_L4 B v1 v2 v3 s) 4 [(0, .ref (ad G (B + 6))), (1, .int v1), (2, .int v2), (3, .int v3)] [] s := by
  unfold f_He_firstFree_L4
  refine jr_iload_n C 3 rfl rfl dX2_firstFree_4 ?_
  refine jr_sipush C sp_256 dX2_firstFree_5 ?_
  refine jr_icmp_ge C (tgt := 45) dX2_firstFree_8 (by decide) (fun h1 => ?_) (fun h1 => ?_)
  · refine jo_pos h1 ?_
    exact jr_end (fun h => hx1 v2 v3 h)
  refine jo_neg h1 ?_
  refine jr_aload_n C 0 rfl rfl dX2_firstFree_11 ?_
  refine jr_getR C FX_2 6 (oM_6 hB).1 (oM_6 hB).2 ff_2_6.1 ff_2_6.2 (rM_6_6 _ hB) fl_X2_27 dX2_firstFree_12 ?_
  refine jr_iload_n C 3 rfl rfl dX2_firstFree_15 ?_
  refine jr_iald C (oM_12 hB).1 (oM_12 hB).2.1 (oM_12 hB).2.2 dX2_firstFree_16 ?_
  refine jr_if_ne C (tgt := 26) dX2_firstFree_17 (by decide) (fun h2 => ?_) (fun h2 => ?_)
  · refine jo_neg h2 ?_
    refine jr_iconst C ic_0 dX2_firstFree_26 ?_
    refine jr_lv [0, 1, 3] rfl ?_
    exact t_He_firstFree_J27_1 G hR hL C hB v1 v3 0 s hb1 hx1 hr
  refine jo_pos h2 ?_
  refine jr_iload_n C 2 rfl rfl dX2_firstFree_20 ?_
  refine jr_iconst C ic_1 dX2_firstFree_21 ?_
  refine jr_iadd C dX2_firstFree_22 ?_
  refine jr_goto C (tgt := 27) dX2_firstFree_23 (by decide) ?_
  refine jr_lv [0, 1, 3] rfl ?_
  exact t_He_firstFree_J27_1 G hR hL C hB v1 v3 (v2 + 1) s hb1 hx1 hr
noncomputable def f_He_firstFree (B : Nat) (v1 : Int32) (s : St) : Option Int32 :=
  (wh (fun a : (Int32 × Int32) => f_He_firstFree_L4 B v1 a.1 a.2 s) (0, 0)).bind (Sum.elim (fun b4 =>
  some (-1)) some)
set_option maxHeartbeats 4000000 in
set_option maxRecDepth 100000 in
theorem t_He_firstFree (G : GG) (hR : gR G = rmx 0 0) (hL : gL G = 4) (C : Cx SC G cX2_firstFree RX2) {Acc : Int32 → Prop} {B : Nat} (hB : isM B) (v1 : Int32) (s : St) (hr : ∀ v : Int32, Acc v → RtI SC G cX2_firstFree v s) : JJ SC G Acc (f_He_firstFree B v1 s) 0 [(0, .ref (ad G (B + 6))), (1, .int v1)] [] s := by
  unfold f_He_firstFree
  refine jr_iconst C ic_0 dX2_firstFree_0 ?_
  refine jr_istore_n C (lv' := [(2, .int 0), (0, .ref (ad G (B + 6))), (1, .int v1)]) (ltL hL rfl) rfl rfl dX2_firstFree_1 ?_
  refine jr_iconst C ic_0 dX2_firstFree_2 ?_
  refine jr_istore_n C (lv' := [(3, .int 0), (2, .int 0), (0, .ref (ad G (B + 6))), (1, .int v1)]) (ltL hL rfl) rfl rfl dX2_firstFree_3 ?_
  refine jr_lv [2, 3, 1, 0] rfl ?_
  refine jr_loopE (pc := 4) (pcx := 45) (f := fun a : (Int32 × Int32) => f_He_firstFree_L4 B v1 a.1 a.2 s) (fun a : (Int32 × Int32) => [(0, .ref (ad G (B + 6))), (1, .int v1), (2, .int (a.1)), (3, .int (a.2))]) (fun a : (Int32 × Int32) => s) (0, 0) (fun a => t_He_firstFree_L4 G hR hL C hB v1 a.1 a.2 s (fun _ _ h => h) (fun _ _ h => h) hr) (fun b4 => ?_)
  refine jr_iconst C ic_m1 dX2_firstFree_45 ?_
  exact jr_end (fun h => hr (-1) h _ _ dX2_firstFree_46)
set_option maxRecDepth 100000 in
theorem c_He_firstFree (l : Launch) {B : Nat} (hB : isM B) (v1 : Int32) (s : St) {q : Int32} (h : f_He_firstFree B v1 s = some q) : CT SC l yX2_firstFree cX2_firstFree 4 (some .int) 0 0 (fun a => [.ref (a (B + 6)), .int v1]) s s (fun _ => some (.int q)) :=
  ct_I okX_C (by decide) (fun _ => Nat.le_of_ble_eq_true rfl) (fun G hl hR hL C hr => t_He_firstFree G hR hL C (Acc := fun v => v = q) hB v1 s (fun v hv => by rw [hv]; exact hr) ⟨_, h, rfl⟩)
noncomputable def f_He_own_L30 (B : Nat) (v2 : Int32) (v3 : Int32) (v4 : Int32) (v5 : Int32) (s : St) : Option ((Int32 × St) ⊕ (Int32 × St)) :=
  if v4 ≤ v5 then
  some (.inr (v5, s))
  else
  gd (v3 + v5) 256 <|
  lt (uI s (B + 12) ((v3 + v5) : Int32).toNatClampNeg v2) fun s4 =>
  some (.inl ((v5 + 1), s4))
set_option maxHeartbeats 4000000 in
set_option maxRecDepth 100000 in
theorem t_He_own_L30 (G : GG) (hR : gR G = rmx 1 20) (hL : gL G = 6) (C : Cx SC G cX2_own RX2) {Acc : ((Int32 × St) ⊕ (Int32 × St)) → Prop} {B : Nat} (hB : isM B) (v2 : Int32) (v3 : Int32) (v4 : Int32) (v5 : Int32) (s : St) (hb1 : ∀ (a5 : Int32) (t : St), Acc (.inl (a5, t)) → KK SC G 30 [(0, .ref (ad G (B + 6))), (2, .int v2), (3, .int v3), (4, .int v4), (5, .int a5)] [] t) (hx1 : ∀ (a5 : Int32) (t : St), Acc (.inr (a5, t)) → KK SC G 53 [(0, .ref (ad G (B + 6))), (2, .int v2), (3, .int v3), (4, .int v4), (5, .int a5)] [] t) : JJ SC G Acc (f_He_own_L30 B v2 v3 v4 v5 s) 30 [(0, .ref (ad G (B + 6))), (2, .int v2), (3, .int v3), (4, .int v4), (5, .int v5)] [] s := by
  unfold f_He_own_L30
  refine jr_iload C 4 rfl dX2_own_30 ?_
  refine jr_iload C 3 rfl dX2_own_32 ?_
  refine jr_icmp_ge C (tgt := 53) dX2_own_34 (by decide) (fun h3 => ?_) (fun h3 => ?_)
  · refine jo_pos h3 ?_
    exact jr_end (fun h => hx1 v5 s h)
  refine jo_neg h3 ?_
  refine jr_aload_n C 0 rfl rfl dX2_own_37 ?_
  refine jr_getR C FX_2 6 (oM_6 hB).1 (oM_6 hB).2 ff_2_6.1 ff_2_6.2 (rM_6_6 _ hB) fl_X2_27 dX2_own_38 ?_
  refine jr_iload_n C 2 rfl rfl dX2_own_41 ?_
  refine jr_iload C 4 rfl dX2_own_42 ?_
  refine jr_iadd C dX2_own_44 ?_
  refine jr_iload_n C 1 rfl rfl dX2_own_45 ?_
  refine jr_iast C (oM_12 hB).1 (oM_12 hB).2.1 (oM_12 hB).2.2 dX2_own_46 (jr_ltS fun s4 => ?_)
  refine jr_iinc C 4 rfl ii_1 (lv' := [(5, .int (v5 + 1)), (0, .ref (ad G (B + 6))), (2, .int v2), (3, .int v3), (4, .int v4)]) (ltL hL rfl) rfl dX2_own_47 ?_
  refine jr_goto C (tgt := 30) dX2_own_50 (by decide) ?_
  refine jr_lv [1, 2, 3, 4, 0] rfl ?_
  exact jr_end (fun h => hb1 (v5 + 1) s4 h)
noncomputable def f_He_own (B : Nat) (v1 : Int32) (v2 : Int32) (s : St) : Option St :=
  gd v1 101 <|
  lt ((((s.1 (B + 7) (v1 : Int32).toNatClampNeg) - 1024) / 8) - 1) fun x1 =>
  gd v1 101 <|
  lt (f_He_unitsOf (s.1 (B + 8) (v1 : Int32).toNatClampNeg)) fun x2 =>
  (wh (fun a : (Int32 × St) => f_He_own_L30 B v2 x1 x2 a.1 a.2) (0, s)).bind (fun b5 =>
  some (b5.2))
set_option maxHeartbeats 4000000 in
set_option maxRecDepth 100000 in
theorem t_He_own (G : GG) (hR : gR G = rmx 1 20) (hL : gL G = 6) (C : Cx SC G cX2_own RX2) {Acc : St → Prop} {B : Nat} (hB : isM B) (v1 : Int32) (v2 : Int32) (s : St) (hr : ∀ v : St, Acc v → RtV SC G cX2_own v) : JJ SC G Acc (f_He_own B v1 v2 s) 0 [(0, .ref (ad G (B + 6))), (1, .int v1), (2, .int v2)] [] s := by
  unfold f_He_own
  refine jr_aload_n C 0 rfl rfl dX2_own_0 ?_
  refine jr_getR C FX_2 0 (oM_6 hB).1 (oM_6 hB).2 ff_2_0.1 ff_2_0.2 (rM_6_0 _ hB) fl_X2_11 dX2_own_1 ?_
  refine jr_iload_n C 1 rfl rfl dX2_own_4 ?_
  refine jr_iald C (oM_7 hB).1 (oM_7 hB).2.1 (oM_7 hB).2.2 dX2_own_5 ?_
  refine jr_sipush C sp_1024 dX2_own_6 ?_
  refine jr_isub C dX2_own_9 ?_
  refine jr_bipush C bp_8 dX2_own_10 ?_
  refine jr_idiv C (by decide) dX2_own_12 ?_
  refine jr_iconst C ic_1 dX2_own_13 ?_
  refine jr_isub C dX2_own_14 ?_
  refine jr_ltI (fun x1 => ?_)
  refine jr_istore_n C (lv' := [(3, .int x1), (0, .ref (ad G (B + 6))), (1, .int v1), (2, .int v2)]) (ltL hL rfl) rfl rfl dX2_own_15 ?_
  refine jr_aload_n C 1 rfl rfl dX2_own_16 ?_
  refine jr_getR C FX_2 1 (oM_6 hB).1 (oM_6 hB).2 ff_2_1.1 ff_2_1.2 (rM_6_1 _ hB) fl_X2_15 dX2_own_17 ?_
  refine jr_iload_n C 2 rfl rfl dX2_own_20 ?_
  refine jr_iald C (oM_8 hB).1 (oM_8 hB).2.1 (oM_8 hB).2.2 dX2_own_21 ?_
  refine jr_callSI C km_X2_46 (rk hR rfl) (c_He_unitsOf (gl G) isM_20 (s.1 (B + 8) (v1 : Int32).toNatClampNeg) s) rfl rfl rfl (Nat.le_of_ble_eq_true rfl) dX2_own_22 ?_
  refine jr_ltI (fun x2 => ?_)
  refine jr_istore C (lv' := [(4, .int x2), (3, .int x1), (0, .ref (ad G (B + 6))), (1, .int v1), (2, .int v2)]) (ltL hL rfl) rfl dX2_own_25 ?_
  refine jr_iconst C ic_0 dX2_own_27 ?_
  refine jr_istore C (lv' := [(5, .int 0), (4, .int x2), (3, .int x1), (0, .ref (ad G (B + 6))), (1, .int v1), (2, .int v2)]) (ltL hL rfl) rfl dX2_own_28 ?_
  refine jr_lv [3, 5, 2, 1, 0] rfl ?_
  refine jr_loopB (pc := 30) (pcx := 53) (f := fun a : (Int32 × St) => f_He_own_L30 B v2 x1 x2 a.1 a.2) (fun a : (Int32 × St) => [(0, .ref (ad G (B + 6))), (2, .int v2), (3, .int x1), (4, .int x2), (5, .int (a.1))]) (fun a : (Int32 × St) => a.2) (0, s) (fun a => t_He_own_L30 G hR hL C hB v2 x1 x2 a.1 a.2 (fun _ _ h => h) (fun _ _ h => h)) (fun b5 => ?_)
  exact jr_end (fun h => hr (b5.2) h _ _ dX2_own_53)
set_option maxRecDepth 100000 in
theorem c_He_own (l : Launch) {B : Nat} (hB : isM B) (v1 : Int32) (v2 : Int32) (s : St) {q : St} (h : f_He_own B v1 v2 s = some q) : CT SC l yX2_own cX2_own 6 none 1 20 (fun a => [.ref (a (B + 6)), .int v1, .int v2]) s q (fun _ => none) :=
  ct_V okX_C (by decide) (fun _ => Nat.le_of_ble_eq_true rfl) (fun G hl hR hL C hr => t_He_own G hR hL C (Acc := fun v => v = q) hB v1 v2 s (fun v hv => by rw [hv]; exact hr) ⟨_, h, rfl⟩)
noncomputable def f_He_make (B : Nat) (v1 : Int32) (v2 : Int32) (s : St) : Option (Int32 × St) :=
  if v1 < 0 then
  some (0, s)
  else
  if 512 < v1 then
  some (0, s)
  else
  if (s.1 (B + 6) 5) < 100 then
  ((f_He_firstFree B (f_He_unitsOf v1) s).bind fun q4 =>
  if q4 = (-1) then
  some (0, s)
  else
  lt (uI s (B + 6) 5 ((s.1 (B + 6) 5) + 1)) fun s7 =>
  gd (s7.1 (B + 6) 5) 101 <|
  lt (uI s7 (B + 7) ((s7.1 (B + 6) 5) : Int32).toNatClampNeg (1024 + (8 * (q4 + 1)))) fun s8 =>
  gd (s8.1 (B + 6) 5) 101 <|
  lt (uI s8 (B + 8) ((s8.1 (B + 6) 5) : Int32).toNatClampNeg v1) fun s9 =>
  gd (s9.1 (B + 6) 5) 101 <|
  lt (uI s9 (B + 9) ((s9.1 (B + 6) 5) : Int32).toNatClampNeg 2) fun s10 =>
  gd (s10.1 (B + 6) 5) 101 <|
  lt (uI s10 (B + 10) ((s10.1 (B + 6) 5) : Int32).toNatClampNeg v2) fun s11 =>
  gd (s11.1 (B + 6) 5) 101 <|
  lt (uI s11 (B + 11) ((s11.1 (B + 6) 5) : Int32).toNatClampNeg (-1)) fun s12 =>
  (f_He_own B (s12.1 (B + 6) 5) (s12.1 (B + 6) 5) s12).bind fun q13 =>
  some ((q13.1 (B + 6) 5), q13))
  else
  some (0, s)
set_option maxHeartbeats 4000000 in
set_option maxRecDepth 100000 in
theorem t_He_make (G : GG) (hR : gR G = rmx 2 45) (hL : gL G = 4) (C : Cx SC G cX2_make RX2) {Acc : (Int32 × St) → Prop} {B : Nat} (hB : isM B) (v1 : Int32) (v2 : Int32) (s : St) (hr : ∀ v : (Int32 × St), Acc v → RtI SC G cX2_make v.1 v.2) : JJ SC G Acc (f_He_make B v1 v2 s) 0 [(0, .ref (ad G (B + 6))), (1, .int v1), (2, .int v2)] [] s := by
  unfold f_He_make
  refine jr_iload_n C 1 rfl rfl dX2_make_0 ?_
  refine jr_if_lt C (tgt := 20) dX2_make_1 (by decide) (fun h1 => ?_) (fun h1 => ?_)
  · refine jo_pos h1 ?_
    refine jr_iconst C ic_0 dX2_make_20 ?_
    exact jr_end (fun h => hr (0, s) h _ _ dX2_make_21)
  refine jo_neg h1 ?_
  refine jr_iload_n C 1 rfl rfl dX2_make_4 ?_
  refine jr_sipush C sp_512 dX2_make_5 ?_
  refine jr_icmp_gt C (tgt := 20) dX2_make_8 (by decide) (fun h2 => ?_) (fun h2 => ?_)
  · refine jo_pos h2 ?_
    refine jr_iconst C ic_0 dX2_make_20 ?_
    exact jr_end (fun h => hr (0, s) h _ _ dX2_make_21)
  refine jo_neg h2 ?_
  refine jr_aload_n C 0 rfl rfl dX2_make_11 ?_
  refine jr_getI C FX_2 5 (oM_6 hB).1 (oM_6 hB).2 ff_2_5.1 ff_2_5.2 fl_X2_33 dX2_make_12 ?_
  refine jr_bipush C bp_100 dX2_make_15 ?_
  refine jr_icmp_lt C (tgt := 22) dX2_make_17 (by decide) (fun h3 => ?_) (fun h3 => ?_)
  · refine jo_pos h3 ?_
    refine jr_aload_n C 0 rfl rfl dX2_make_22 ?_
    refine jr_iload_n C 1 rfl rfl dX2_make_23 ?_
    refine jr_callSI C km_X2_46 (rk hR rfl) (c_He_unitsOf (gl G) isM_20 v1 s) rfl rfl rfl (Nat.le_of_ble_eq_true rfl) dX2_make_24 ?_
    refine jr_bind (fun q4 e5 => ?_)
    refine jr_callVI C FX_2 km_X2_50 (oM_6 hB).1 (oM_6 hB).2 (rk hR rfl) (c_He_firstFree (gl G) hB (f_He_unitsOf v1) s e5) rfl rfl rfl (Nat.le_of_ble_eq_true rfl) dX2_make_27 ?_
    refine jr_istore_n C (lv' := [(3, .int q4), (0, .ref (ad G (B + 6))), (1, .int v1), (2, .int v2)]) (ltL hL rfl) rfl rfl dX2_make_30 ?_
    refine jr_iload_n C 0 rfl rfl dX2_make_31 ?_
    refine jr_iconst C ic_m1 dX2_make_32 ?_
    refine jr_icmp_ne C (tgt := 38) dX2_make_33 (by decide) (fun h6 => ?_) (fun h6 => ?_)
    · refine jo_neg h6 ?_
      refine jr_aload_n C 1 rfl rfl dX2_make_38 ?_
      refine jr_dup C rfl dX2_make_39 ?_
      refine jr_getI C FX_2 5 (oM_6 hB).1 (oM_6 hB).2 ff_2_5.1 ff_2_5.2 fl_X2_33 dX2_make_40 ?_
      refine jr_iconst C ic_1 dX2_make_43 ?_
      refine jr_iadd C dX2_make_44 ?_
      refine jr_putI C FX_2 5 (oM_6 hB).1 (oM_6 hB).2 ff_2_5.1 ff_2_5.2 rfl rfl fl_X2_33 dX2_make_45 (jr_ltS fun s7 => ?_)
      refine jr_aload_n C 1 rfl rfl dX2_make_48 ?_
      refine jr_getR C FX_2 0 (oM_6 hB).1 (oM_6 hB).2 ff_2_0.1 ff_2_0.2 (rM_6_0 _ hB) fl_X2_11 dX2_make_49 ?_
      refine jr_aload_n C 1 rfl rfl dX2_make_52 ?_
      refine jr_getI C FX_2 5 (oM_6 hB).1 (oM_6 hB).2 ff_2_5.1 ff_2_5.2 fl_X2_33 dX2_make_53 ?_
      refine jr_sipush C sp_1024 dX2_make_56 ?_
      refine jr_bipush C bp_8 dX2_make_59 ?_
      refine jr_iload_n C 0 rfl rfl dX2_make_61 ?_
      refine jr_iconst C ic_1 dX2_make_62 ?_
      refine jr_iadd C dX2_make_63 ?_
      refine jr_imul C dX2_make_64 ?_
      refine jr_iadd C dX2_make_65 ?_
      refine jr_iast C (oM_7 hB).1 (oM_7 hB).2.1 (oM_7 hB).2.2 dX2_make_66 (jr_ltS fun s8 => ?_)
      refine jr_aload_n C 1 rfl rfl dX2_make_67 ?_
      refine jr_getR C FX_2 1 (oM_6 hB).1 (oM_6 hB).2 ff_2_1.1 ff_2_1.2 (rM_6_1 _ hB) fl_X2_15 dX2_make_68 ?_
      refine jr_aload_n C 1 rfl rfl dX2_make_71 ?_
      refine jr_getI C FX_2 5 (oM_6 hB).1 (oM_6 hB).2 ff_2_5.1 ff_2_5.2 fl_X2_33 dX2_make_72 ?_
      refine jr_iload_n C 2 rfl rfl dX2_make_75 ?_
      refine jr_iast C (oM_8 hB).1 (oM_8 hB).2.1 (oM_8 hB).2.2 dX2_make_76 (jr_ltS fun s9 => ?_)
      refine jr_aload_n C 1 rfl rfl dX2_make_77 ?_
      refine jr_getR C FX_2 2 (oM_6 hB).1 (oM_6 hB).2 ff_2_2.1 ff_2_2.2 (rM_6_2 _ hB) fl_X2_18 dX2_make_78 ?_
      refine jr_aload_n C 1 rfl rfl dX2_make_81 ?_
      refine jr_getI C FX_2 5 (oM_6 hB).1 (oM_6 hB).2 ff_2_5.1 ff_2_5.2 fl_X2_33 dX2_make_82 ?_
      refine jr_iconst C ic_2 dX2_make_85 ?_
      refine jr_iast C (oM_9 hB).1 (oM_9 hB).2.1 (oM_9 hB).2.2 dX2_make_86 (jr_ltS fun s10 => ?_)
      refine jr_aload_n C 1 rfl rfl dX2_make_87 ?_
      refine jr_getR C FX_2 3 (oM_6 hB).1 (oM_6 hB).2 ff_2_3.1 ff_2_3.2 (rM_6_3 _ hB) fl_X2_21 dX2_make_88 ?_
      refine jr_aload_n C 1 rfl rfl dX2_make_91 ?_
      refine jr_getI C FX_2 5 (oM_6 hB).1 (oM_6 hB).2 ff_2_5.1 ff_2_5.2 fl_X2_33 dX2_make_92 ?_
      refine jr_iload_n C 3 rfl rfl dX2_make_95 ?_
      refine jr_iast C (oM_10 hB).1 (oM_10 hB).2.1 (oM_10 hB).2.2 dX2_make_96 (jr_ltS fun s11 => ?_)
      refine jr_aload_n C 1 rfl rfl dX2_make_97 ?_
      refine jr_getR C FX_2 4 (oM_6 hB).1 (oM_6 hB).2 ff_2_4.1 ff_2_4.2 (rM_6_4 _ hB) fl_X2_24 dX2_make_98 ?_
      refine jr_aload_n C 1 rfl rfl dX2_make_101 ?_
      refine jr_getI C FX_2 5 (oM_6 hB).1 (oM_6 hB).2 ff_2_5.1 ff_2_5.2 fl_X2_33 dX2_make_102 ?_
      refine jr_iconst C ic_m1 dX2_make_105 ?_
      refine jr_iast C (oM_11 hB).1 (oM_11 hB).2.1 (oM_11 hB).2.2 dX2_make_106 (jr_ltS fun s12 => ?_)
      refine jr_aload_n C 1 rfl rfl dX2_make_107 ?_
      refine jr_aload_n C 1 rfl rfl dX2_make_108 ?_
      refine jr_getI C FX_2 5 (oM_6 hB).1 (oM_6 hB).2 ff_2_5.1 ff_2_5.2 fl_X2_33 dX2_make_109 ?_
      refine jr_aload_n C 1 rfl rfl dX2_make_112 ?_
      refine jr_getI C FX_2 5 (oM_6 hB).1 (oM_6 hB).2 ff_2_5.1 ff_2_5.2 fl_X2_33 dX2_make_113 ?_
      refine jr_bind (fun q13 e14 => ?_)
      refine jr_callVV C FX_2 km_X2_55 (oM_6 hB).1 (oM_6 hB).2 (rk hR rfl) (c_He_own (gl G) hB (s12.1 (B + 6) 5) (s12.1 (B + 6) 5) s12 e14) rfl rfl rfl (Nat.le_of_ble_eq_true rfl) dX2_make_116 ?_
      refine jr_aload_n C 1 rfl rfl dX2_make_119 ?_
      refine jr_getI C FX_2 5 (oM_6 hB).1 (oM_6 hB).2 ff_2_5.1 ff_2_5.2 fl_X2_33 dX2_make_120 ?_
      exact jr_end (fun h => hr ((q13.1 (B + 6) 5), q13) h _ _ dX2_make_123)
    refine jo_pos h6 ?_
    refine jr_iconst C ic_0 dX2_make_36 ?_
    exact jr_end (fun h => hr (0, s) h _ _ dX2_make_37)
  refine jo_neg h3 ?_
  refine jr_iconst C ic_0 dX2_make_20 ?_
  exact jr_end (fun h => hr (0, s) h _ _ dX2_make_21)
set_option maxRecDepth 100000 in
theorem c_He_make (l : Launch) {B : Nat} (hB : isM B) (v1 : Int32) (v2 : Int32) (s : St) {q : (Int32 × St)} (h : f_He_make B v1 v2 s = some q) : CT SC l yX2_make cX2_make 4 (some .int) 2 45 (fun a => [.ref (a (B + 6)), .int v1, .int v2]) s q.2 (fun _ => some (.int q.1)) :=
  ct_I okX_C (by decide) (fun _ => Nat.le_of_ble_eq_true rfl) (fun G hl hR hL C hr => t_He_make G hR hL C (Acc := fun v => v = q) hB v1 v2 s (fun v hv => by rw [hv]; exact hr) ⟨_, h, rfl⟩)
noncomputable def f_Me_setToZero_L2 (B : Nat) (v1 : Int32) (v2 : Int32) (v3 : Int32) (s : St) : Option ((Int32 × St) ⊕ (Int32 × St)) :=
  if v2 ≤ v3 then
  some (.inr (v3, s))
  else
  if (f_Me_isByte (v1 + v3)) = 0 then
  some (.inr (v3, s))
  else
  gd (v1 + v3) 4096 <|
  lt (uI s (B + 5) ((v1 + v3) : Int32).toNatClampNeg (bN 1)) fun s3 =>
  (f_Me_putByte B (v1 + v3) 0 0 0 s3).bind fun q4 =>
  some (.inl ((v3 + 1), q4))
set_option maxHeartbeats 4000000 in
set_option maxRecDepth 100000 in
theorem t_Me_setToZero_L2 (G : GG) (hR : gR G = rmx 1 24) (hL : gL G = 4) (C : Cx SC G cX6_setToZero RX6) {Acc : ((Int32 × St) ⊕ (Int32 × St)) → Prop} {B : Nat} (hB : isM B) (v1 : Int32) (v2 : Int32) (v3 : Int32) (s : St) (hb1 : ∀ (a3 : Int32) (t : St), Acc (.inl (a3, t)) → KK SC G 2 [(0, .ref (ad G (B + 1))), (1, .int v1), (2, .int v2), (3, .int a3)] [] t) (hx1 : ∀ (a3 : Int32) (t : St), Acc (.inr (a3, t)) → KK SC G 41 [(0, .ref (ad G (B + 1))), (1, .int v1), (2, .int v2), (3, .int a3)] [] t) : JJ SC G Acc (f_Me_setToZero_L2 B v1 v2 v3 s) 2 [(0, .ref (ad G (B + 1))), (1, .int v1), (2, .int v2), (3, .int v3)] [] s := by
  unfold f_Me_setToZero_L2
  refine jr_iload_n C 3 rfl rfl dX6_setToZero_2 ?_
  refine jr_iload_n C 2 rfl rfl dX6_setToZero_3 ?_
  refine jr_icmp_ge C (tgt := 41) dX6_setToZero_4 (by decide) (fun h1 => ?_) (fun h1 => ?_)
  · refine jo_pos h1 ?_
    exact jr_end (fun h => hx1 v3 s h)
  refine jo_neg h1 ?_
  refine jr_iload_n C 1 rfl rfl dX6_setToZero_7 ?_
  refine jr_iload_n C 3 rfl rfl dX6_setToZero_8 ?_
  refine jr_iadd C dX6_setToZero_9 ?_
  refine jr_callSI C km_X6_35 (rk hR rfl) (c_Me_isByte (gl G) isM_20 (v1 + v3) s) rfl rfl rfl (Nat.le_of_ble_eq_true rfl) dX6_setToZero_10 ?_
  refine jr_if_eq C (tgt := 41) dX6_setToZero_13 (by decide) (fun h2 => ?_) (fun h2 => ?_)
  · refine jo_pos h2 ?_
    exact jr_end (fun h => hx1 v3 s h)
  refine jo_neg h2 ?_
  refine jr_aload_n C 0 rfl rfl dX6_setToZero_16 ?_
  refine jr_getR C FX_6 3 (oM_1 hB).1 (oM_1 hB).2 ff_6_3.1 ff_6_3.2 (rM_1_3 _ hB) fl_X6_21 dX6_setToZero_17 ?_
  refine jr_iload_n C 1 rfl rfl dX6_setToZero_20 ?_
  refine jr_iload_n C 3 rfl rfl dX6_setToZero_21 ?_
  refine jr_iadd C dX6_setToZero_22 ?_
  refine jr_iconst C ic_1 dX6_setToZero_23 ?_
  refine jr_zast C (oM_5 hB).1 (oM_5 hB).2.1 (oM_5 hB).2.2 dX6_setToZero_24 (jr_ltS fun s3 => ?_)
  refine jr_aload_n C 0 rfl rfl dX6_setToZero_25 ?_
  refine jr_iload_n C 1 rfl rfl dX6_setToZero_26 ?_
  refine jr_iload_n C 3 rfl rfl dX6_setToZero_27 ?_
  refine jr_iadd C dX6_setToZero_28 ?_
  refine jr_iconst C ic_0 dX6_setToZero_29 ?_
  refine jr_iconst C ic_0 dX6_setToZero_30 ?_
  refine jr_iconst C ic_0 dX6_setToZero_31 ?_
  refine jr_bind (fun q4 e5 => ?_)
  refine jr_callVV C FX_6 km_X6_43 (oM_1 hB).1 (oM_1 hB).2 (rk hR rfl) (c_Me_putByte (gl G) hB (v1 + v3) 0 0 0 s3 e5) rfl rfl rfl (Nat.le_of_ble_eq_true rfl) dX6_setToZero_32 ?_
  refine jr_iinc C 3 rfl ii_1 (lv' := [(3, .int (v3 + 1)), (0, .ref (ad G (B + 1))), (1, .int v1), (2, .int v2)]) (ltL hL rfl) rfl dX6_setToZero_35 ?_
  refine jr_goto C (tgt := 2) dX6_setToZero_38 (by decide) ?_
  refine jr_lv [1, 2, 3, 0] rfl ?_
  exact jr_end (fun h => hb1 (v3 + 1) q4 h)
noncomputable def f_Me_setToZero (B : Nat) (v1 : Int32) (v2 : Int32) (s : St) : Option St :=
  (wh (fun a : (Int32 × St) => f_Me_setToZero_L2 B v1 v2 a.1 a.2) (0, s)).bind (fun b6 =>
  some (b6.2))
set_option maxHeartbeats 4000000 in
set_option maxRecDepth 100000 in
theorem t_Me_setToZero (G : GG) (hR : gR G = rmx 1 24) (hL : gL G = 4) (C : Cx SC G cX6_setToZero RX6) {Acc : St → Prop} {B : Nat} (hB : isM B) (v1 : Int32) (v2 : Int32) (s : St) (hr : ∀ v : St, Acc v → RtV SC G cX6_setToZero v) : JJ SC G Acc (f_Me_setToZero B v1 v2 s) 0 [(0, .ref (ad G (B + 1))), (1, .int v1), (2, .int v2)] [] s := by
  unfold f_Me_setToZero
  refine jr_iconst C ic_0 dX6_setToZero_0 ?_
  refine jr_istore_n C (lv' := [(3, .int 0), (0, .ref (ad G (B + 1))), (1, .int v1), (2, .int v2)]) (ltL hL rfl) rfl rfl dX6_setToZero_1 ?_
  refine jr_lv [1, 2, 3, 0] rfl ?_
  refine jr_loopB (pc := 2) (pcx := 41) (f := fun a : (Int32 × St) => f_Me_setToZero_L2 B v1 v2 a.1 a.2) (fun a : (Int32 × St) => [(0, .ref (ad G (B + 1))), (1, .int v1), (2, .int v2), (3, .int (a.1))]) (fun a : (Int32 × St) => a.2) (0, s) (fun a => t_Me_setToZero_L2 G hR hL C hB v1 v2 a.1 a.2 (fun _ _ h => h) (fun _ _ h => h)) (fun b6 => ?_)
  exact jr_end (fun h => hr (b6.2) h _ _ dX6_setToZero_41)
set_option maxRecDepth 100000 in
theorem c_Me_setToZero (l : Launch) {B : Nat} (hB : isM B) (v1 : Int32) (v2 : Int32) (s : St) {q : St} (h : f_Me_setToZero B v1 v2 s = some q) : CT SC l yX6_setToZero cX6_setToZero 4 none 1 24 (fun a => [.ref (a (B + 1)), .int v1, .int v2]) s q (fun _ => none) :=
  ct_V okX_C (by decide) (fun _ => Nat.le_of_ble_eq_true rfl) (fun G hl hR hL C hr => t_Me_setToZero G hR hL C (Acc := fun v => v = q) hB v1 v2 s (fun v hv => by rw [hv]; exact hr) ⟨_, h, rfl⟩)
noncomputable def f_Ma_allotBlock (B : Nat) (v1 : Int32) (v2 : Int32) (s : St) : Option (Int32 × St) :=
  (f_He_make B v1 (s.1 B 9) s).bind fun q1 =>
  lt (q1.1) fun x3 =>
  if x3 = 0 then
  some (0, q1.2)
  else
  gd x3 101 <|
  lt (q1.2.1 (B + 7) (x3 : Int32).toNatClampNeg) fun x5 =>
  if v2 = 0 then
  ((f_Me_unset B x5 v1 (8 + x3) (q1.2)).bind fun q7 =>
  some (x5, q7))
  else
  (f_Me_setToZero B x5 v1 (q1.2)).bind fun q9 =>
  some (x5, q9)
set_option maxHeartbeats 4000000 in
set_option maxRecDepth 100000 in
theorem t_Ma_allotBlock (G : GG) (hR : gR G = rmx 3 68) (hL : gL G = 5) (C : Cx SC G cX5_allotBlock RX5) {Acc : (Int32 × St) → Prop} {B : Nat} (hB : isM B) (v1 : Int32) (v2 : Int32) (s : St) (hr : ∀ v : (Int32 × St), Acc v → RtI SC G cX5_allotBlock v.1 v.2) : JJ SC G Acc (f_Ma_allotBlock B v1 v2 s) 0 [(0, .ref (ad G B)), (1, .int v1), (2, .int v2)] [] s := by
  unfold f_Ma_allotBlock
  refine jr_aload_n C 0 rfl rfl dX5_allotBlock_0 ?_
  refine jr_getR C FX_5 2 (oM_0 hB).1 (oM_0 hB).2 ff_5_2.1 ff_5_2.2 (rM_0_2 _ hB) fl_X5_21 dX5_allotBlock_1 ?_
  refine jr_iload_n C 1 rfl rfl dX5_allotBlock_4 ?_
  refine jr_aload_n C 0 rfl rfl dX5_allotBlock_5 ?_
  refine jr_getI C FX_5 9 (oM_0 hB).1 (oM_0 hB).2 ff_5_9.1 ff_5_9.2 fl_X5_108 dX5_allotBlock_6 ?_
  refine jr_bind (fun q1 e2 => ?_)
  refine jr_callVI C FX_2 km_X5_300 (oM_6 hB).1 (oM_6 hB).2 (rk hR rfl) (c_He_make (gl G) hB v1 (s.1 B 9) s e2) rfl rfl rfl (Nat.le_of_ble_eq_true rfl) dX5_allotBlock_9 ?_
  refine jr_ltI (fun x3 => ?_)
  refine jr_istore_n C (lv' := [(3, .int x3), (0, .ref (ad G B)), (1, .int v1), (2, .int v2)]) (ltL hL rfl) rfl rfl dX5_allotBlock_12 ?_
  refine jr_iload_n C 0 rfl rfl dX5_allotBlock_13 ?_
  refine jr_if_ne C (tgt := 19) dX5_allotBlock_14 (by decide) (fun h4 => ?_) (fun h4 => ?_)
  · refine jo_neg h4 ?_
    refine jr_aload_n C 1 rfl rfl dX5_allotBlock_19 ?_
    refine jr_getR C FX_5 2 (oM_0 hB).1 (oM_0 hB).2 ff_5_2.1 ff_5_2.2 (rM_0_2 _ hB) fl_X5_21 dX5_allotBlock_20 ?_
    refine jr_getR C FX_2 0 (oM_6 hB).1 (oM_6 hB).2 ff_2_0.1 ff_2_0.2 (rM_6_0 _ hB) fl_X5_303 dX5_allotBlock_23 ?_
    refine jr_iload_n C 0 rfl rfl dX5_allotBlock_26 ?_
    refine jr_iald C (oM_7 hB).1 (oM_7 hB).2.1 (oM_7 hB).2.2 dX5_allotBlock_27 ?_
    refine jr_ltI (fun x5 => ?_)
    refine jr_istore C (lv' := [(4, .int x5), (3, .int x3), (0, .ref (ad G B)), (1, .int v1), (2, .int v2)]) (ltL hL rfl) rfl dX5_allotBlock_28 ?_
    refine jr_iload_n C 4 rfl rfl dX5_allotBlock_30 ?_
    refine jr_if_eq C (tgt := 47) dX5_allotBlock_31 (by decide) (fun h6 => ?_) (fun h6 => ?_)
    · refine jo_pos h6 ?_
      refine jr_aload_n C 2 rfl rfl dX5_allotBlock_47 ?_
      refine jr_getR C FX_5 1 (oM_0 hB).1 (oM_0 hB).2 ff_5_1.1 ff_5_1.2 (rM_0_1 _ hB) fl_X5_12 dX5_allotBlock_48 ?_
      refine jr_iload C 0 rfl dX5_allotBlock_51 ?_
      refine jr_iload_n C 3 rfl rfl dX5_allotBlock_53 ?_
      refine jr_bipush C bp_8 dX5_allotBlock_54 ?_
      refine jr_iload_n C 1 rfl rfl dX5_allotBlock_56 ?_
      refine jr_iadd C dX5_allotBlock_57 ?_
      refine jr_bind (fun q7 e8 => ?_)
      refine jr_callVV C FX_6 km_X5_310 (oM_1 hB).1 (oM_1 hB).2 (rk hR rfl) (c_Me_unset (gl G) hB x5 v1 (8 + x3) (q1.2) e8) rfl rfl rfl (Nat.le_of_ble_eq_true rfl) dX5_allotBlock_58 ?_
      refine jr_iload C 0 rfl dX5_allotBlock_61 ?_
      exact jr_end (fun h => hr (x5, q7) h _ _ dX5_allotBlock_63)
    refine jo_neg h6 ?_
    refine jr_aload_n C 2 rfl rfl dX5_allotBlock_34 ?_
    refine jr_getR C FX_5 1 (oM_0 hB).1 (oM_0 hB).2 ff_5_1.1 ff_5_1.2 (rM_0_1 _ hB) fl_X5_12 dX5_allotBlock_35 ?_
    refine jr_iload C 0 rfl dX5_allotBlock_38 ?_
    refine jr_iload_n C 3 rfl rfl dX5_allotBlock_40 ?_
    refine jr_bind (fun q9 e10 => ?_)
    refine jr_callVV C FX_6 km_X5_306 (oM_1 hB).1 (oM_1 hB).2 (rk hR rfl) (c_Me_setToZero (gl G) hB x5 v1 (q1.2) e10) rfl rfl rfl (Nat.le_of_ble_eq_true rfl) dX5_allotBlock_41 ?_
    refine jr_goto C (tgt := 61) dX5_allotBlock_44 (by decide) ?_
    refine jr_iload C 0 rfl dX5_allotBlock_61 ?_
    exact jr_end (fun h => hr (x5, q9) h _ _ dX5_allotBlock_63)
  refine jo_pos h4 ?_
  refine jr_iconst C ic_0 dX5_allotBlock_17 ?_
  exact jr_end (fun h => hr (0, q1.2) h _ _ dX5_allotBlock_18)
set_option maxRecDepth 100000 in
theorem c_Ma_allotBlock (l : Launch) {B : Nat} (hB : isM B) (v1 : Int32) (v2 : Int32) (s : St) {q : (Int32 × St)} (h : f_Ma_allotBlock B v1 v2 s = some q) : CT SC l yX5_allotBlock cX5_allotBlock 5 (some .int) 3 68 (fun a => [.ref (a B), .int v1, .int v2]) s q.2 (fun _ => some (.int q.1)) :=
  ct_I okX_C (by decide) (fun _ => Nat.le_of_ble_eq_true rfl) (fun G hl hR hL C hr => t_Ma_allotBlock G hR hL C (Acc := fun v => v = q) hB v1 v2 s (fun v hv => by rw [hv]; exact hr) ⟨_, h, rfl⟩)
noncomputable def f_Ma_allot_J43 (B : Nat) (w0 : Int32) (w1 : Int32) (w3 : Int32) (s : St) : Option St :=
  (f_Ma_allotBlock B w1 w0 s).bind fun q8 =>
  (f_Ma_give B w3 (q8.1) 0 0 (q8.2)).bind fun q10 =>
  some q10
set_option maxHeartbeats 4000000 in
set_option maxRecDepth 100000 in
theorem t_Ma_allot_J43 (G : GG) (hR : gR G = rmx 4 99) (hL : gL G = 2) (C : Cx SC G cX5_allot RX5) {Acc : St → Prop} {B : Nat} (hB : isM B) (w0 : Int32) (w1 : Int32) (w3 : Int32) (s : St) (hr : ∀ v : St, Acc v → RtV SC G cX5_allot v) : JJ SC G Acc (f_Ma_allot_J43 B w0 w1 w3 s) 43 [] [.int w0, .int w1, .ref (ad G B), .int w3, .ref (ad G B)] s := by
  unfold f_Ma_allot_J43
  refine jr_bind (fun q8 e9 => ?_)
  refine jr_callVI C FX_5 km_X5_296 (oM_0 hB).1 (oM_0 hB).2 (rk hR rfl) (c_Ma_allotBlock (gl G) hB w1 w0 s e9) rfl rfl rfl (Nat.le_of_ble_eq_true rfl) dX5_allot_43 ?_
  refine jr_iconst C ic_0 dX5_allot_46 ?_
  refine jr_iconst C ic_0 dX5_allot_47 ?_
  refine jr_bind (fun q10 e11 => ?_)
  refine jr_callVV C FX_5 km_X5_275 (oM_0 hB).1 (oM_0 hB).2 (rk hR rfl) (c_Ma_give (gl G) hB w3 (q8.1) 0 0 (q8.2) e11) rfl rfl rfl (Nat.le_of_ble_eq_true rfl) dX5_allot_48 ?_
  exact jr_end (fun h => hr q10 h _ _ dX5_allot_51)
noncomputable def f_Ma_allot (B : Nat) (v1 : Int32) (s : St) : Option St :=
  (f_Ma_takeEither B (B + 35) 1 s).bind fun q1 =>
  (f_Ma_reportShade B (B + 35) 5 q1).bind fun q3 =>
  (f_Ma_operand B 0 q3).bind fun q5 =>
  if v1 = 42 then
  f_Ma_allot_J43 B 1 (q3.1 (B + 35) 0) q5 q3
  else
  f_Ma_allot_J43 B 0 (q3.1 (B + 35) 0) q5 q3
set_option maxHeartbeats 4000000 in
set_option maxRecDepth 100000 in
theorem t_Ma_allot (G : GG) (hR : gR G = rmx 4 99) (hL : gL G = 2) (C : Cx SC G cX5_allot RX5) {Acc : St → Prop} {B : Nat} (hB : isM B) (v1 : Int32) (s : St) (hr : ∀ v : St, Acc v → RtV SC G cX5_allot v) : JJ SC G Acc (f_Ma_allot B v1 s) 0 [(0, .ref (ad G B)), (1, .int v1)] [] s := by
  unfold f_Ma_allot
  refine jr_aload_n C 0 rfl rfl dX5_allot_0 ?_
  refine jr_aload_n C 0 rfl rfl dX5_allot_1 ?_
  refine jr_getR C FX_5 7 (oM_0 hB).1 (oM_0 hB).2 ff_5_7.1 ff_5_7.2 (rM_0_7 _ hB) fl_X5_50 dX5_allot_2 ?_
  refine jr_iconst C ic_1 dX5_allot_5 ?_
  refine jr_bind (fun q1 e2 => ?_)
  refine jr_callVV C FX_5 km_X5_256 (oM_0 hB).1 (oM_0 hB).2 (rk hR rfl) (c_Ma_takeEither (gl G) hB (dM_35 hB) 1 s e2) rfl rfl rfl (Nat.le_of_ble_eq_true rfl) dX5_allot_6 ?_
  refine jr_aload_n C 0 rfl rfl dX5_allot_9 ?_
  refine jr_iconst C ic_5 dX5_allot_10 ?_
  refine jr_aload_n C 0 rfl rfl dX5_allot_11 ?_
  refine jr_getR C FX_5 7 (oM_0 hB).1 (oM_0 hB).2 ff_5_7.1 ff_5_7.2 (rM_0_7 _ hB) fl_X5_50 dX5_allot_12 ?_
  refine jr_bind (fun q3 e4 => ?_)
  refine jr_callVV C FX_5 km_X5_259 (oM_0 hB).1 (oM_0 hB).2 (rk hR rfl) (c_Ma_reportShade (gl G) hB (dM_35 hB) 5 q1 e4) rfl rfl rfl (Nat.le_of_ble_eq_true rfl) dX5_allot_15 ?_
  refine jr_aload_n C 0 rfl rfl dX5_allot_18 ?_
  refine jr_aload_n C 0 rfl rfl dX5_allot_19 ?_
  refine jr_iconst C ic_0 dX5_allot_20 ?_
  refine jr_bind (fun q5 e6 => ?_)
  refine jr_callVI C FX_5 km_X5_209 (oM_0 hB).1 (oM_0 hB).2 (rk hR rfl) (c_Ma_operand (gl G) hB 0 q3 e6) rfl rfl rfl (Nat.le_of_ble_eq_true rfl) dX5_allot_21 ?_
  refine jr_aload_n C 0 rfl rfl dX5_allot_24 ?_
  refine jr_aload_n C 0 rfl rfl dX5_allot_25 ?_
  refine jr_getR C FX_5 7 (oM_0 hB).1 (oM_0 hB).2 ff_5_7.1 ff_5_7.2 (rM_0_7 _ hB) fl_X5_50 dX5_allot_26 ?_
  refine jr_getI C FX_1 0 (oD (dM_35 hB)).1 (oD (dM_35 hB)).2 ff_1_0.1 ff_1_0.2 fl_X5_232 dX5_allot_29 ?_
  refine jr_iload_n C 1 rfl rfl dX5_allot_32 ?_
  refine jr_bipush C bp_42 dX5_allot_33 ?_
  refine jr_icmp_ne C (tgt := 42) dX5_allot_35 (by decide) (fun h7 => ?_) (fun h7 => ?_)
  · refine jo_neg h7 ?_
    refine jr_iconst C ic_0 dX5_allot_42 ?_
    refine jr_lv [] rfl ?_
    exact t_Ma_allot_J43 G hR hL C hB 0 (q3.1 (B + 35) 0) q5 q3 hr
  refine jo_pos h7 ?_
  refine jr_iconst C ic_1 dX5_allot_38 ?_
  refine jr_goto C (tgt := 43) dX5_allot_39 (by decide) ?_
  refine jr_lv [] rfl ?_
  exact t_Ma_allot_J43 G hR hL C hB 1 (q3.1 (B + 35) 0) q5 q3 hr
set_option maxRecDepth 100000 in
theorem c_Ma_allot (l : Launch) {B : Nat} (hB : isM B) (v1 : Int32) (s : St) {q : St} (h : f_Ma_allot B v1 s = some q) : CT SC l yX5_allot cX5_allot 2 none 4 99 (fun a => [.ref (a B), .int v1]) s q (fun _ => none) :=
  ct_V okX_C (by decide) (fun _ => Nat.le_of_ble_eq_true rfl) (fun G hl hR hL C hr => t_Ma_allot G hR hL C (Acc := fun v => v = q) hB v1 s (fun v hv => by rw [hv]; exact hr) ⟨_, h, rfl⟩)
noncomputable def f_He_leadsTo (B : Nat) (v1 : Int32) (s : St) : Option Int32 :=
  (f_He_ownerOf B v1 s).bind fun q1 =>
  if q1 = 0 then
  some 0
  else
  gd q1 101 <|
  if (s.1 (B + 9) (q1 : Int32).toNatClampNeg) = 2 then
  (gd q1 101 <|
  lt (v1 - (s.1 (B + 7) (q1 : Int32).toNatClampNeg)) fun x5 =>
  if x5 = 0 then
  some q1
  else
  if x5 ≤ 0 then
  some 0
  else
  gd q1 101 <|
  if (s.1 (B + 8) (q1 : Int32).toNatClampNeg) ≤ x5 then
  some 0
  else
  some q1)
  else
  some 0
set_option maxHeartbeats 4000000 in
set_option maxRecDepth 100000 in
theorem t_He_leadsTo (G : GG) (hR : gR G = rmx 1 21) (hL : gL G = 4) (C : Cx SC G cX2_leadsTo RX2) {Acc : Int32 → Prop} {B : Nat} (hB : isM B) (v1 : Int32) (s : St) (hr : ∀ v : Int32, Acc v → RtI SC G cX2_leadsTo v s) : JJ SC G Acc (f_He_leadsTo B v1 s) 0 [(0, .ref (ad G (B + 6))), (1, .int v1)] [] s := by
  unfold f_He_leadsTo
  refine jr_aload_n C 0 rfl rfl dX2_leadsTo_0 ?_
  refine jr_iload_n C 1 rfl rfl dX2_leadsTo_1 ?_
  refine jr_bind (fun q1 e2 => ?_)
  refine jr_callVI C FX_2 km_X2_59 (oM_6 hB).1 (oM_6 hB).2 (rk hR rfl) (c_He_ownerOf (gl G) hB v1 s e2) rfl rfl rfl (Nat.le_of_ble_eq_true rfl) dX2_leadsTo_2 ?_
  refine jr_istore_n C (lv' := [(2, .int q1), (0, .ref (ad G (B + 6))), (1, .int v1)]) (ltL hL rfl) rfl rfl dX2_leadsTo_5 ?_
  refine jr_iload_n C 0 rfl rfl dX2_leadsTo_6 ?_
  refine jr_if_eq C (tgt := 20) dX2_leadsTo_7 (by decide) (fun h3 => ?_) (fun h3 => ?_)
  · refine jo_pos h3 ?_
    refine jr_iconst C ic_0 dX2_leadsTo_20 ?_
    exact jr_end (fun h => hr 0 h _ _ dX2_leadsTo_21)
  refine jo_neg h3 ?_
  refine jr_aload_n C 1 rfl rfl dX2_leadsTo_10 ?_
  refine jr_getR C FX_2 2 (oM_6 hB).1 (oM_6 hB).2 ff_2_2.1 ff_2_2.2 (rM_6_2 _ hB) fl_X2_18 dX2_leadsTo_11 ?_
  refine jr_iload_n C 0 rfl rfl dX2_leadsTo_14 ?_
  refine jr_iald C (oM_9 hB).1 (oM_9 hB).2.1 (oM_9 hB).2.2 dX2_leadsTo_15 ?_
  refine jr_iconst C ic_2 dX2_leadsTo_16 ?_
  refine jr_icmp_eq C (tgt := 22) dX2_leadsTo_17 (by decide) (fun h4 => ?_) (fun h4 => ?_)
  · refine jo_pos h4 ?_
    refine jr_iload_n C 2 rfl rfl dX2_leadsTo_22 ?_
    refine jr_aload_n C 1 rfl rfl dX2_leadsTo_23 ?_
    refine jr_getR C FX_2 0 (oM_6 hB).1 (oM_6 hB).2 ff_2_0.1 ff_2_0.2 (rM_6_0 _ hB) fl_X2_11 dX2_leadsTo_24 ?_
    refine jr_iload_n C 0 rfl rfl dX2_leadsTo_27 ?_
    refine jr_iald C (oM_7 hB).1 (oM_7 hB).2.1 (oM_7 hB).2.2 dX2_leadsTo_28 ?_
    refine jr_isub C dX2_leadsTo_29 ?_
    refine jr_ltI (fun x5 => ?_)
    refine jr_istore_n C (lv' := [(3, .int x5), (2, .int q1), (0, .ref (ad G (B + 6))), (1, .int v1)]) (ltL hL rfl) rfl rfl dX2_leadsTo_30 ?_
    refine jr_iload_n C 0 rfl rfl dX2_leadsTo_31 ?_
    refine jr_if_eq C (tgt := 49) dX2_leadsTo_32 (by decide) (fun h6 => ?_) (fun h6 => ?_)
    · refine jo_pos h6 ?_
      refine jr_iload_n C 1 rfl rfl dX2_leadsTo_49 ?_
      refine jr_goto C (tgt := 54) dX2_leadsTo_50 (by decide) ?_
      exact jr_end (fun h => hr q1 h _ _ dX2_leadsTo_54)
    refine jo_neg h6 ?_
    refine jr_iload_n C 0 rfl rfl dX2_leadsTo_35 ?_
    refine jr_if_le C (tgt := 53) dX2_leadsTo_36 (by decide) (fun h7 => ?_) (fun h7 => ?_)
    · refine jo_pos h7 ?_
      refine jr_iconst C ic_0 dX2_leadsTo_53 ?_
      exact jr_end (fun h => hr 0 h _ _ dX2_leadsTo_54)
    refine jo_neg h7 ?_
    refine jr_iload_n C 0 rfl rfl dX2_leadsTo_39 ?_
    refine jr_aload_n C 2 rfl rfl dX2_leadsTo_40 ?_
    refine jr_getR C FX_2 1 (oM_6 hB).1 (oM_6 hB).2 ff_2_1.1 ff_2_1.2 (rM_6_1 _ hB) fl_X2_15 dX2_leadsTo_41 ?_
    refine jr_iload_n C 1 rfl rfl dX2_leadsTo_44 ?_
    refine jr_iald C (oM_8 hB).1 (oM_8 hB).2.1 (oM_8 hB).2.2 dX2_leadsTo_45 ?_
    refine jr_icmp_ge C (tgt := 53) dX2_leadsTo_46 (by decide) (fun h8 => ?_) (fun h8 => ?_)
    · refine jo_pos h8 ?_
      refine jr_iconst C ic_0 dX2_leadsTo_53 ?_
      exact jr_end (fun h => hr 0 h _ _ dX2_leadsTo_54)
    refine jo_neg h8 ?_
    refine jr_iload_n C 1 rfl rfl dX2_leadsTo_49 ?_
    refine jr_goto C (tgt := 54) dX2_leadsTo_50 (by decide) ?_
    exact jr_end (fun h => hr q1 h _ _ dX2_leadsTo_54)
  refine jo_neg h4 ?_
  refine jr_iconst C ic_0 dX2_leadsTo_20 ?_
  exact jr_end (fun h => hr 0 h _ _ dX2_leadsTo_21)
set_option maxRecDepth 100000 in
theorem c_He_leadsTo (l : Launch) {B : Nat} (hB : isM B) (v1 : Int32) (s : St) {q : Int32} (h : f_He_leadsTo B v1 s = some q) : CT SC l yX2_leadsTo cX2_leadsTo 4 (some .int) 1 21 (fun a => [.ref (a (B + 6)), .int v1]) s s (fun _ => some (.int q)) :=
  ct_I okX_C (by decide) (fun _ => Nat.le_of_ble_eq_true rfl) (fun G hl hR hL C hr => t_He_leadsTo G hR hL C (Acc := fun v => v = q) hB v1 s (fun v hv => by rw [hv]; exact hr) ⟨_, h, rfl⟩)
noncomputable def f_He_beginsAt (B : Nat) (v1 : Int32) (s : St) : Option Int32 :=
  (f_He_leadsTo B v1 s).bind fun q1 =>
  if q1 = 0 then
  some 0
  else
  gd q1 101 <|
  if (s.1 (B + 7) (q1 : Int32).toNatClampNeg) = v1 then
  some q1
  else
  some 0
set_option maxHeartbeats 4000000 in
set_option maxRecDepth 100000 in
theorem t_He_beginsAt (G : GG) (hR : gR G = rmx 2 44) (hL : gL G = 3) (C : Cx SC G cX2_beginsAt RX2) {Acc : Int32 → Prop} {B : Nat} (hB : isM B) (v1 : Int32) (s : St) (hr : ∀ v : Int32, Acc v → RtI SC G cX2_beginsAt v s) : JJ SC G Acc (f_He_beginsAt B v1 s) 0 [(0, .ref (ad G (B + 6))), (1, .int v1)] [] s := by
  unfold f_He_beginsAt
  refine jr_aload_n C 0 rfl rfl dX2_beginsAt_0 ?_
  refine jr_iload_n C 1 rfl rfl dX2_beginsAt_1 ?_
  refine jr_bind (fun q1 e2 => ?_)
  refine jr_callVI C FX_2 km_X2_62 (oM_6 hB).1 (oM_6 hB).2 (rk hR rfl) (c_He_leadsTo (gl G) hB v1 s e2) rfl rfl rfl (Nat.le_of_ble_eq_true rfl) dX2_beginsAt_2 ?_
  refine jr_istore_n C (lv' := [(2, .int q1), (0, .ref (ad G (B + 6))), (1, .int v1)]) (ltL hL rfl) rfl rfl dX2_beginsAt_5 ?_
  refine jr_iload_n C 0 rfl rfl dX2_beginsAt_6 ?_
  refine jr_if_eq C (tgt := 24) dX2_beginsAt_7 (by decide) (fun h3 => ?_) (fun h3 => ?_)
  · refine jo_pos h3 ?_
    refine jr_iconst C ic_0 dX2_beginsAt_24 ?_
    exact jr_end (fun h => hr 0 h _ _ dX2_beginsAt_25)
  refine jo_neg h3 ?_
  refine jr_aload_n C 1 rfl rfl dX2_beginsAt_10 ?_
  refine jr_getR C FX_2 0 (oM_6 hB).1 (oM_6 hB).2 ff_2_0.1 ff_2_0.2 (rM_6_0 _ hB) fl_X2_11 dX2_beginsAt_11 ?_
  refine jr_iload_n C 0 rfl rfl dX2_beginsAt_14 ?_
  refine jr_iald C (oM_7 hB).1 (oM_7 hB).2.1 (oM_7 hB).2.2 dX2_beginsAt_15 ?_
  refine jr_iload_n C 2 rfl rfl dX2_beginsAt_16 ?_
  refine jr_icmp_ne C (tgt := 24) dX2_beginsAt_17 (by decide) (fun h4 => ?_) (fun h4 => ?_)
  · refine jo_neg h4 ?_
    refine jr_iconst C ic_0 dX2_beginsAt_24 ?_
    exact jr_end (fun h => hr 0 h _ _ dX2_beginsAt_25)
  refine jo_pos h4 ?_
  refine jr_iload_n C 0 rfl rfl dX2_beginsAt_20 ?_
  refine jr_goto C (tgt := 25) dX2_beginsAt_21 (by decide) ?_
  exact jr_end (fun h => hr q1 h _ _ dX2_beginsAt_25)
set_option maxRecDepth 100000 in
theorem c_He_beginsAt (l : Launch) {B : Nat} (hB : isM B) (v1 : Int32) (s : St) {q : Int32} (h : f_He_beginsAt B v1 s = some q) : CT SC l yX2_beginsAt cX2_beginsAt 3 (some .int) 2 44 (fun a => [.ref (a (B + 6)), .int v1]) s s (fun _ => some (.int q)) :=
  ct_I okX_C (by decide) (fun _ => Nat.le_of_ble_eq_true rfl) (fun G hl hR hL C hr => t_He_beginsAt G hR hL C (Acc := fun v => v = q) hB v1 s (fun v hv => by rw [hv]; exact hr) ⟨_, h, rfl⟩)
noncomputable def f_Ma_blockToFree (B : Nat) (v1 : Int32) (s : St) : Option (Int32 × St) :=
  (f_He_beginsAt B v1 s).bind fun q1 =>
  if q1 = 0 then
  ((f_He_ownerOf B v1 s).bind fun q4 =>
  (f_Lg_note B 7 (s.1 B 9) q4 s).bind fun q6 =>
  some (q1, q6))
  else
  some (q1, s)
set_option maxHeartbeats 4000000 in
set_option maxRecDepth 100000 in
theorem t_Ma_blockToFree (G : GG) (hR : gR G = rmx 3 66) (hL : gL G = 3) (C : Cx SC G cX5_blockToFree RX5) {Acc : (Int32 × St) → Prop} {B : Nat} (hB : isM B) (v1 : Int32) (s : St) (hr : ∀ v : (Int32 × St), Acc v → RtI SC G cX5_blockToFree v.1 v.2) : JJ SC G Acc (f_Ma_blockToFree B v1 s) 0 [(0, .ref (ad G B)), (1, .int v1)] [] s := by
  unfold f_Ma_blockToFree
  refine jr_aload_n C 0 rfl rfl dX5_blockToFree_0 ?_
  refine jr_getR C FX_5 2 (oM_0 hB).1 (oM_0 hB).2 ff_5_2.1 ff_5_2.2 (rM_0_2 _ hB) fl_X5_21 dX5_blockToFree_1 ?_
  refine jr_iload_n C 1 rfl rfl dX5_blockToFree_4 ?_
  refine jr_bind (fun q1 e2 => ?_)
  refine jr_callVI C FX_2 km_X5_319 (oM_6 hB).1 (oM_6 hB).2 (rk hR rfl) (c_He_beginsAt (gl G) hB v1 s e2) rfl rfl rfl (Nat.le_of_ble_eq_true rfl) dX5_blockToFree_5 ?_
  refine jr_istore_n C (lv' := [(2, .int q1), (0, .ref (ad G B)), (1, .int v1)]) (ltL hL rfl) rfl rfl dX5_blockToFree_8 ?_
  refine jr_iload_n C 0 rfl rfl dX5_blockToFree_9 ?_
  refine jr_if_ne C (tgt := 34) dX5_blockToFree_10 (by decide) (fun h3 => ?_) (fun h3 => ?_)
  · refine jo_neg h3 ?_
    refine jr_iload_n C 0 rfl rfl dX5_blockToFree_34 ?_
    exact jr_end (fun h => hr (q1, s) h _ _ dX5_blockToFree_35)
  refine jo_pos h3 ?_
  refine jr_aload_n C 1 rfl rfl dX5_blockToFree_13 ?_
  refine jr_getR C FX_5 4 (oM_0 hB).1 (oM_0 hB).2 ff_5_4.1 ff_5_4.2 (rM_0_4 _ hB) fl_X5_35 dX5_blockToFree_14 ?_
  refine jr_bipush C bp_7 dX5_blockToFree_17 ?_
  refine jr_aload_n C 1 rfl rfl dX5_blockToFree_19 ?_
  refine jr_getI C FX_5 9 (oM_0 hB).1 (oM_0 hB).2 ff_5_9.1 ff_5_9.2 fl_X5_108 dX5_blockToFree_20 ?_
  refine jr_aload_n C 1 rfl rfl dX5_blockToFree_23 ?_
  refine jr_getR C FX_5 2 (oM_0 hB).1 (oM_0 hB).2 ff_5_2.1 ff_5_2.2 (rM_0_2 _ hB) fl_X5_21 dX5_blockToFree_24 ?_
  refine jr_iload_n C 2 rfl rfl dX5_blockToFree_27 ?_
  refine jr_bind (fun q4 e5 => ?_)
  refine jr_callVI C FX_2 km_X5_253 (oM_6 hB).1 (oM_6 hB).2 (rk hR rfl) (c_He_ownerOf (gl G) hB v1 s e5) rfl rfl rfl (Nat.le_of_ble_eq_true rfl) dX5_blockToFree_28 ?_
  refine jr_bind (fun q6 e7 => ?_)
  refine jr_callVV C FX_4 km_X5_247 (oM_17 hB).1 (oM_17 hB).2 (rk hR rfl) (c_Lg_note (gl G) hB 7 (s.1 B 9) q4 s e7) rfl rfl rfl (Nat.le_of_ble_eq_true rfl) dX5_blockToFree_31 ?_
  refine jr_iload_n C 0 rfl rfl dX5_blockToFree_34 ?_
  exact jr_end (fun h => hr (q1, q6) h _ _ dX5_blockToFree_35)
set_option maxRecDepth 100000 in
theorem c_Ma_blockToFree (l : Launch) {B : Nat} (hB : isM B) (v1 : Int32) (s : St) {q : (Int32 × St)} (h : f_Ma_blockToFree B v1 s = some q) : CT SC l yX5_blockToFree cX5_blockToFree 3 (some .int) 3 66 (fun a => [.ref (a B), .int v1]) s q.2 (fun _ => some (.int q.1)) :=
  ct_I okX_C (by decide) (fun _ => Nat.le_of_ble_eq_true rfl) (fun G hl hR hL C hr => t_Ma_blockToFree G hR hL C (Acc := fun v => v = q) hB v1 s (fun v hv => by rw [hv]; exact hr) ⟨_, h, rfl⟩)
noncomputable def f_Me_holds (v0 : Int32) (v1 : Int32) : Int32 :=
  if v1 = 0 then
  1
  else
  if v0 < 0 then
  0
  else
  if v1 ≤ 0 then
  0
  else
  if 4096 < v1 then
  0
  else
  if (4096 - v1) < v0 then
  0
  else
  1
set_option maxHeartbeats 4000000 in
set_option maxRecDepth 100000 in
theorem t_Me_holds (G : GG) (hR : gR G = rmx 0 0) (hL : gL G = 2) (C : Cx SC G cX6_holds RX6) {Acc : Int32 → Prop} {B : Nat} (hB : isM B) (v0 : Int32) (v1 : Int32) (s : St) (hr : ∀ v : Int32, Acc v → RtZ SC G cX6_holds v s) : JJ SC G Acc (some (f_Me_holds v0 v1)) 0 [(0, .int v0), (1, .int v1)] [] s := by
  unfold f_Me_holds
  refine jr_iload_n C 1 rfl rfl dX6_holds_0 ?_
  refine jr_if_eq C (tgt := 28) dX6_holds_1 (by decide) (fun h1 => ?_) (fun h1 => ?_)
  · refine jo_posP h1 ?_
    refine jr_iconst C ic_1 dX6_holds_28 ?_
    refine jr_goto C (tgt := 33) dX6_holds_29 (by decide) ?_
    exact jr_end (fun h => hr 1 h _ _ _ bN1 dX6_holds_33)
  refine jo_negP h1 ?_
  refine jr_iload_n C 0 rfl rfl dX6_holds_4 ?_
  refine jr_if_lt C (tgt := 32) dX6_holds_5 (by decide) (fun h2 => ?_) (fun h2 => ?_)
  · refine jo_posP h2 ?_
    refine jr_iconst C ic_0 dX6_holds_32 ?_
    exact jr_end (fun h => hr 0 h _ _ _ bN0 dX6_holds_33)
  refine jo_negP h2 ?_
  refine jr_iload_n C 1 rfl rfl dX6_holds_8 ?_
  refine jr_if_le C (tgt := 32) dX6_holds_9 (by decide) (fun h3 => ?_) (fun h3 => ?_)
  · refine jo_posP h3 ?_
    refine jr_iconst C ic_0 dX6_holds_32 ?_
    exact jr_end (fun h => hr 0 h _ _ _ bN0 dX6_holds_33)
  refine jo_negP h3 ?_
  refine jr_iload_n C 1 rfl rfl dX6_holds_12 ?_
  refine jr_sipush C sp_4096 dX6_holds_13 ?_
  refine jr_icmp_gt C (tgt := 32) dX6_holds_16 (by decide) (fun h4 => ?_) (fun h4 => ?_)
  · refine jo_posP h4 ?_
    refine jr_iconst C ic_0 dX6_holds_32 ?_
    exact jr_end (fun h => hr 0 h _ _ _ bN0 dX6_holds_33)
  refine jo_negP h4 ?_
  refine jr_iload_n C 0 rfl rfl dX6_holds_19 ?_
  refine jr_sipush C sp_4096 dX6_holds_20 ?_
  refine jr_iload_n C 1 rfl rfl dX6_holds_23 ?_
  refine jr_isub C dX6_holds_24 ?_
  refine jr_icmp_gt C (tgt := 32) dX6_holds_25 (by decide) (fun h5 => ?_) (fun h5 => ?_)
  · refine jo_posP h5 ?_
    refine jr_iconst C ic_0 dX6_holds_32 ?_
    exact jr_end (fun h => hr 0 h _ _ _ bN0 dX6_holds_33)
  refine jo_negP h5 ?_
  refine jr_iconst C ic_1 dX6_holds_28 ?_
  refine jr_goto C (tgt := 33) dX6_holds_29 (by decide) ?_
  exact jr_end (fun h => hr 1 h _ _ _ bN1 dX6_holds_33)
set_option maxRecDepth 100000 in
theorem c_Me_holds (l : Launch) {B : Nat} (hB : isM B) (v0 : Int32) (v1 : Int32) (s : St) : CT SC l yX6_holds cX6_holds 2 (some .boolean) 0 0 (fun a => [.int v0, .int v1]) s s (fun _ => some (.int (f_Me_holds v0 v1))) :=
  ct_Z okX_C (by decide) (fun _ => Nat.le_of_ble_eq_true rfl) (fun G hl hR hL C hr => t_Me_holds G hR hL C (Acc := fun v => v = (f_Me_holds v0 v1)) hB v0 v1 s (fun v hv => by rw [hv]; exact hr) ⟨_, rfl, rfl⟩)
