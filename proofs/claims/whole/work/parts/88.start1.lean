def R_law : String := "ShadeBenchLaw"
def lw_P (b : Addr) (xs : List Int32) (args : Array Value) (s : State) : Prop := args = #[.ref b] ∧ s.IntsAt b xs ∧ xs.length ≤ 3072 ∧ (Jvm.Cond.and given_1 narrow_1).before args s = true
def lw_Q (_ : Array Value) (s : State) (o : Outcome) (t : State) : Prop := o = .returned (some (.int 1)) ∧ Framed s o t [] 600000 7302250
def lw_Z (below : List Frame) (a : Array Value) (s : State) : State → Prop := fun t => ∃ o, t.status = .running ∧ Ended t below o ∧ lw_Q a s o t
/-- the law's own end, with 1 on the stack, nothing written that was there before, its room as the claim has it -/
theorem lw_ret {p : Program} {l : Launch} {e : Env} {s : State} {m : MethodId} {below : List Frame} {meth : Method} {c : Code} {b : Nat} (hx : p.tables.exec = Jvm.exec) (hb : c.code = code) (hr : meth.sig.returnType = ret) (hlocks : meth.locks = false) {pc : Nat} {H : Heap} {ls : Array Slot} (hdg : decode code pc = .ok (.ireturn, 1)) : W p l e room_1 s m #[Value.ref b] below meth c H [] 600000 7302250 (lw_Z below #[Value.ref b] s) (F0 m pc ls [.int 1]) := by
  intro T hT X
  obtain ⟨fs, hret, hrun, hended, hW, hframe⟩ := X.leave (v := some (.int 1)) (hlocks := hlocks) (fun h => by rw [hr] at h; cases h)
  have hmeth' : T.vm.method? m = some meth := X.method'
  refine ⟨T.setFrames fs, ?_, .returned (some (.int 1)), hrun, hended, rfl, ⟨_, rfl⟩, hW, hframe⟩
  jvm_step X.here [X.here.top, hx, hb, hdg, hmeth', hr, ret, narrow_b1]
  (try refine ⟨rfl, ?_⟩); (try refine ⟨rfl, ?_⟩)
  first | (intro acts; rw [hret _ acts rfl rfl rfl]) | rw [hret _ _ rfl rfl rfl]
  exact Steps.refl _
/-- what holds at the law's entry: the machine, the code, the tables' words (any of lw_tbl by 'hts w (by decide +kernel)'), the script of L ints xs at the cell b, what the Statement gives of the start (any of its parts by flat_of_before) -/
def lw_At (p : Program) (s : State) (m : MethodId) (meth : Method) (c : Code) (b L : Nat) (xs : Nat → Int32) : Prop :=
  p.tables.exec = Jvm.exec ∧ c.code = code ∧ meth.sig.returnType = ret ∧ c.maxLocals = 4 ∧ s.vm.findClass R_law = some m.cls ∧ (∀ w ∈ lw_tbl, w.before #[Value.ref b] s = true) ∧ va_X b L xs s s.heap ∧ b < s.heap.size ∧ meth.locks = false ∧ (Jvm.Cond.and given_1 narrow_1).before #[Value.ref b] s = true
theorem ki_9 : Cond.instantiable RX11 9 ∈ big ∧ Cond.initialized RX11 ∈ big := ⟨mem_big (mem_t1 (List.mem_of_getElem? (i := 21) (by decide +kernel))) (by decide +kernel), mem_big (mem_t1 (List.mem_of_getElem? (i := 1) (by decide +kernel))) (by decide +kernel)⟩
theorem ki_10 : Cond.instantiable RX12 75 ∈ big ∧ Cond.initialized RX12 ∈ big := ⟨mem_big (mem_t5 (List.mem_of_getElem? (i := 86) (by decide +kernel))) (by decide +kernel), mem_big (mem_t1 (List.mem_of_getElem? (i := 15) (by decide +kernel))) (by decide +kernel)⟩
theorem kf_9 : ∀ j, j < 9 → defaultValue (tyX11 j) = vp_V [.null, .int 0, .null, .null, .null, .int 0, .null, .null, .int 0] j := by decide
theorem kf_10 : ∀ j, j < 75 → defaultValue (tyX12 j) = vp_V [.null, .int 0, .null, .int 0, .null, .null, .null, .null, .null, .null, .null, .null, .null, .null, .int 0, .int 0, .int 0, .int 0, .int 0, .int 0, .int 0, .int 0, .int 0, .int 0, .int 0, .int 0, .int 0, .int 0, .int 0, .int 0, .null, .null, .null, .null, .null, .null, .null, .null, .null, .null, .null, .null, .null, .null, .null, .null, .null, .null, .null, .null, .null, .null, .null, .null, .null, .int 0, .int 0, .null, .null, .null, .null, .int 0, .int 0, .int 0, .int 0, .null, .null, .null, .int 0, .int 0, .null, .null, .null, .int 0, .null] j := by decide
theorem kcl_L_7 : Cond.classLink RL 7 RX11 ∈ big := mem_big (mem_t1 (List.mem_of_getElem? (i := 20) (by decide +kernel))) (by decide +kernel)
theorem kcl_L_10 : Cond.classLink RL 10 RX12 ∈ big := mem_big (mem_t5 (List.mem_of_getElem? (i := 85) (by decide +kernel))) (by decide +kernel)
theorem kiL_9 : LkI RL 9 yX11_init cX11_init 1 := ⟨⟨mem_big (mem_t1 (List.mem_of_getElem? (i := 24) (by decide +kernel))) (by decide +kernel), mem_big (mem_t1 (List.mem_of_getElem? (i := 22) (by decide +kernel))) (by decide +kernel), mem_big (mem_t1 (List.mem_of_getElem? (i := 1) (by decide +kernel))) (by decide +kernel), by decide +kernel⟩, rfl, mem_big (mem_t1 (List.mem_of_getElem? (i := 23) (by decide +kernel))) (by decide +kernel)⟩
theorem kiL_12 : LkI RL 12 yX12_init cX12_init 1 := ⟨⟨mem_big (mem_t5 (List.mem_of_getElem? (i := 89) (by decide +kernel))) (by decide +kernel), mem_big (mem_t5 (List.mem_of_getElem? (i := 87) (by decide +kernel))) (by decide +kernel), mem_big (mem_t1 (List.mem_of_getElem? (i := 15) (by decide +kernel))) (by decide +kernel), by decide +kernel⟩, rfl, mem_big (mem_t5 (List.mem_of_getElem? (i := 88) (by decide +kernel))) (by decide +kernel)⟩
/-! the texts, as the Statement gives them -/
def tmS (i : Nat) : Term := Term.string (txS.getD i ("", 0, "")).1 (txS.getD i ("", 0, "")).2.1
def flN : List Cond := flatC (Jvm.Cond.and given_1 narrow_1)
theorem fx_ex : ∀ i, i < 11 → Cond.exactly (tmS i) "java/lang/String" ∈ flN := by decide +kernel
theorem fx_co : ∀ i, i < 11 → Cond.eq (.field (tmS i) "java/lang/String" "coder" "B") (.int 0) ∈ flN := by decide +kernel
theorem fx_ar : ∀ i, i < 11 → Cond.arrayOf (.field (tmS i) "java/lang/String" "value" "[B") .byte ∈ flN := by decide +kernel
theorem fx_le : ∀ i, i < 11 → Cond.eq (.length (.field (tmS i) "java/lang/String" "value" "[B")) (.int (Int32.ofNat (leS.getD i 0))) ∈ flN := by decide +kernel
def elp : List Nat := [13, 220, 227, 235, 245, 256, 268, 279, 290, 304, 320]
def elc (i j : Nat) : Cond := Cond.eq (.elem (.field (tmS i) "java/lang/String" "value" "[B") (.int (Int32.ofNat j))) (.int ((byS.getD i []).getD j 0))
theorem fx_el0 : (List.range (leS.getD 0 0)).map (elc 0) = (flN.drop (elp.getD 0 0)).take (leS.getD 0 0) := by decide +kernel
theorem fx_el1 : ∀ i, i < 11 → i ≠ 0 → (List.range (leS.getD i 0)).map (elc i) = (flN.drop (elp.getD i 0)).take (leS.getD i 0) := by decide +kernel
theorem fx_el : ∀ i, i < 11 → ∀ j, j < leS.getD i 0 → Cond.eq (.elem (.field (tmS i) "java/lang/String" "value" "[B") (.int (Int32.ofNat j))) (.int ((byS.getD i []).getD j 0)) ∈ flN := by
  intro i hi j hj
  have h : elc i j ∈ (List.range (leS.getD i 0)).map (elc i) := List.mem_map.mpr ⟨j, List.mem_range.mpr hj, rfl⟩
  have e : (List.range (leS.getD i 0)).map (elc i) = (flN.drop (elp.getD i 0)).take (leS.getD i 0) := by
    by_cases h0 : i = 0
    · subst h0; exact fx_el0
    · exact fx_el1 i hi h0
  rw [e] at h
  exact List.mem_of_mem_drop (List.mem_of_mem_take h)
theorem fx_ne : ∀ i, i < 11 → ∀ j, j < 11 → i ≠ j → Cond.not (Cond.eq (tmS i) (tmS j)) ∈ flN ∨ Cond.not (Cond.eq (tmS j) (tmS i)) ∈ flN := by decide +kernel
theorem fx_cs : Cond.eq (.static "java/lang/String" "COMPACT_STRINGS" "Z") (.int 1) ∈ flN := by decide +kernel
theorem fx_sf : Cond.isRef (.static "jdk/internal/util/Preconditions" "SIOOBE_FORMATTER" "Ljava/util/function/BiFunction;") ∈ flN := by decide +kernel
theorem fx_sr : ∀ i, i < 11 → Cond.stringRef (txS.getD i ("", 0, "")).1 (txS.getD i ("", 0, "")).2.1 (txS.getD i ("", 0, "")).2.2 ∈ lw_tbl := by decide +kernel
theorem fx_l1 : Cond.laysStatic "java/lang/String" "COMPACT_STRINGS" "Z" ∈ lw_tbl := by decide +kernel
theorem fx_l2 : Cond.laysStatic "jdk/internal/util/Preconditions" "SIOOBE_FORMATTER" "Ljava/util/function/BiFunction;" ∈ lw_tbl := by decide +kernel
theorem fx_i1 : Cond.initialized "java/lang/String" ∈ lw_tbl := by decide +kernel
theorem fx_i2 : Cond.initialized "jdk/internal/util/Preconditions" ∈ lw_tbl := by decide +kernel
theorem fx_n1 : Cond.methodLinkNest RX0 11 yX10_init "ShadeBench" ∈ lw_tbl := by decide +kernel
theorem fx_n2 : Cond.methodLinkNest RX5 45 yX1_init "ShadeBench" ∈ lw_tbl := by decide +kernel
theorem fx_ao : Cond.arrayOver (.object "ShadeBench$Datum") ∈ lw_tbl := by decide +kernel
theorem start_X {s : State} {args : Array Value} {A : Nat → Prop} (hts : ∀ w ∈ lw_tbl, w.before args s = true) (hgv : (Jvm.Cond.and given_1 narrow_1).before args s = true) (hA : ∀ a : Nat, a < s.heap.size → ¬ A a) : ∃ a : Nat → Nat, XC a A s := by
  have hs := flat_of_before _ hgv
  obtain ⟨adK, adV, h1, h2⟩ := vk_Sof (args := args) (s := s) (N := 11) (tm := tmS) (len := leS) (byt := byS) (A := A) (fun i hi => leS_lt hi) (fun i hi => hs _ (fx_ex i hi)) (fun i hi => hs _ (fx_co i hi)) (fun i hi => hs _ (fx_ar i hi)) (fun i hi => hs _ (fx_le i hi)) (fun i hi j hj => hs _ (fx_el i hi j hj)) (fun i j hi hj hij => (fx_ne i hi j hj hij).imp (fun h => hs _ h) (fun h => hs _ h)) hA
  obtain ⟨a, ha⟩ : ∃ a : Nat → Nat, a = fun k => if k < 300 then adK (k - 200) else adV (k - 300) := ⟨_, rfl⟩
  have eK : ∀ i, i < 11 → a (200 + i) = adK i := fun i hi => by subst ha; show (if 200 + i < 300 then _ else _) = _; rw [if_pos (by omega), Nat.add_sub_cancel_left]
  have eV : ∀ i, a (300 + i) = adV i := fun i => by subst ha; show (if 300 + i < 300 then _ else _) = _; rw [if_neg (by omega), Nat.add_sub_cancel_left]
  refine ⟨a, ⟨⟨fun i hi => ?_, fun i j hi hj e => h1.2 i j hi hj ?_⟩, fun i hi => ?_, ?_, ?_⟩, ?_, ?_, ?_⟩
  · have := h1.1 i hi
    rw [← eK i hi, ← eV i] at this
    exact this
  · rw [← eK i hi, ← eK j hj]; exact e
  · rw [eK i hi]
    exact vk_R.of (hts _ (fx_sr i hi)) (h2 i hi)
  · exact va_Zof (hts _ fx_l1) (hts _ fx_i1) (va_eqt (hs _ fx_cs)) hA
  · exact va_Zqof (hts _ fx_l2) (hts _ fx_i2) (hs _ fx_sf) hA
  · exact va_Nw.of rfl (hts _ fx_n1)
  · exact va_Nw.of rfl (hts _ fx_n2)
  · exact va_AO.of (hts _ fx_ao)
theorem start_K {s : State} {args : Array Value} (hts : ∀ w ∈ big, w.before args s = true) (hao : va_AO "ShadeBench$Datum" s) : ∃ (D : va_G) (cy : Nat → ClassId), va_K D vwCl (tys cy) s := by
  obtain ⟨c0, i0, k0⟩ := u_known (C := RX0) (T := TX0) (N := 13) (n := 13) hts FX_0.2.2.2.1 (hts _ ki_0.1)
  obtain ⟨c1, i1, k1⟩ := u_known (C := RX1) (T := TX1) (N := 3) (n := 3) hts FX_1.2.2.2.1 (hts _ ki_1.1)
  obtain ⟨c2, i2, k2⟩ := u_known (C := RX2) (T := TX2) (N := 11) (n := 11) hts FX_2.2.2.2.1 (hts _ ki_2.1)
  obtain ⟨c3, i3, k3⟩ := u_known (C := RX3) (T := TX3) (N := 3) (n := 3) hts FX_3.2.2.2.1 (hts _ ki_3.1)
  obtain ⟨c4, i4, k4⟩ := u_known (C := RX4) (T := TX4) (N := 11) (n := 11) hts FX_4.2.2.2.1 (hts _ ki_4.1)
  obtain ⟨c5, i5, k5⟩ := u_known (C := RX5) (T := TX5) (N := 19) (n := 19) hts FX_5.2.2.2.1 (hts _ ki_5.1)
  obtain ⟨c6, i6, k6⟩ := u_known (C := RX6) (T := TX6) (N := 6) (n := 6) hts FX_6.2.2.2.1 (hts _ ki_6.1)
  obtain ⟨c7, i7, k7⟩ := u_known (C := RX8) (T := TX8) (N := 6) (n := 6) hts FX_7.2.2.2.1 (hts _ ki_7.1)
  obtain ⟨c8, i8, k8⟩ := u_known (C := RX10) (T := TX10) (N := 7) (n := 7) hts FX_8.2.2.2.1 (hts _ ki_8.1)
  obtain ⟨c9, i9, k9⟩ := u_known (C := RX11) (T := TX11) (N := 9) (n := 9) hts FX_9.2.2.2.1 (hts _ ki_9.1)
  obtain ⟨c10, i10, k10⟩ := u_known (C := RX12) (T := TX12) (N := 75) (n := 75) hts FX_10.2.2.2.1 (hts _ ki_10.1)
  obtain ⟨x0, kA0, p0, f0, g0, d0⟩ := Cond.arrayClass_spec (hts _ ka_int)
  obtain ⟨x1, kA1, p1, f1, g1, d1⟩ := Cond.arrayClass_spec (hts _ ka_long)
  obtain ⟨x2, kA2, p2, f2, g2, d2⟩ := Cond.arrayClass_spec (hts _ ka_boolean)
  obtain ⟨x3, kA3, p3, f3, g3, d3⟩ := Cond.arrayClass_spec (hts _ ka_byte)
  obtain ⟨p4, x4, kA4, q1, q2, g4, d4, f4⟩ := Cond.arrayOver_spec hao
  refine ⟨(fun k => if k = 0 then c0 else if k = 1 then c1 else if k = 2 then c2 else if k = 3 then c3 else if k = 4 then c4 else if k = 5 then c5 else if k = 6 then c6 else if k = 7 then c7 else if k = 8 then c8 else if k = 9 then c9 else c10, fun k => if k = 0 then i0 else if k = 1 then i1 else if k = 2 then i2 else if k = 3 then i3 else if k = 4 then i4 else if k = 5 then i5 else if k = 6 then i6 else if k = 7 then i7 else if k = 8 then i8 else if k = 9 then i9 else i10), fun t => if t = 100 then x0 else if t = 101 then x1 else if t = 102 then x2 else if t = 103 then x3 else x4, fun k q hq => ?_, fun k q hq => ?_⟩
  · match k, hq with
    | 0, hq => cases hq; exact k0
    | 1, hq => cases hq; exact k1
    | 2, hq => cases hq; exact k2
    | 3, hq => cases hq; exact k3
    | 4, hq => cases hq; exact k4
    | 5, hq => cases hq; exact k5
    | 6, hq => cases hq; exact k6
    | 7, hq => cases hq; exact k7
    | 8, hq => cases hq; exact k8
    | 9, hq => cases hq; exact k9
    | 10, hq => cases hq; exact k10
    | k + 11, hq => simp [vwCl] at hq
  · match k, hq with
    | 0, hq => cases hq; exact ⟨fun n z => ⟨fun k h => (by cases h), kA0, g0, p0, d0⟩, f0⟩
    | 1, hq => cases hq; exact ⟨fun n z => ⟨fun k h => (by cases h), kA1, g1, p1, d1⟩, f1⟩
    | 2, hq => cases hq; exact ⟨fun n z => ⟨fun k h => (by cases h), kA2, g2, p2, d2⟩, f2⟩
    | 3, hq => cases hq; exact ⟨fun n z => ⟨fun k h => (by cases h), kA3, g3, p3, d3⟩, f3⟩
    | 4, hq => cases hq; exact ⟨fun n z => ⟨fun k h => (by cases h), kA4, g4, p4, d4⟩, kA4, p4, g4, d4, q1, f4⟩
    | k + 5, hq => simp [tys] at hq
theorem va_Pset {D : va_G} {ws : va_W} {H : Heap} {p a n : Nat} {cA : ClassId} {f g : Nat → Option Nat} (h : va_P D vwCl ws H) (hp : ws[p]? = some (a, .inl (cA, n, .inr (.inr (.inr (.inr f)))))) (hfg : ∀ j, j < n → f j = g j) : va_P D vwCl (ws.set p (a, .inl (cA, n, .inr (.inr (.inr (.inr g)))))) H := by
  have hl := (List.getElem?_eq_some_iff.mp hp).1
  intro k q hk
  by_cases hkp : k = p
  · subst hkp
    rw [List.getElem?_set_self hl] at hk
    cases hk
    have h1 := h k _ hp
    show H[a]? = some (vp_cell cA (n, .inr (.inr (.inr (.inr g)))))
    have h2 : H[a]? = some (vp_cell cA (n, .inr (.inr (.inr (.inr f))))) := h1
    rw [h2, vp_cell_q, vp_cell_q]
    have e : (Array.ofFn (n := n) fun j => va_rf (f j.val)) = Array.ofFn (n := n) fun j => va_rf (g j.val) := by
      congr 1; funext j; rw [hfg j.val j.isLt]
    unfold arrV
    rw [e]
  · rw [List.getElem?_set_ne (Ne.symm hkp)] at hk
    exact h k q hk
