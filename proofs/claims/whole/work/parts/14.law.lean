/-! ===== the law's loop: both worlds side by side ===== -/
def KL (G : GG) (a2 : Nat → Nat) (pc : Nat) (lv : List (Nat × Value)) (st : List Value) (c m : St) : Prop :=
  ∀ (H : Heap) (locs : List Loc) (ls : Array Slot), va_P (gD G) vwCl (wd SC (ad G) (gy G) c ++ wd SM a2 (gy G) m) H → va_S (gA G) (gs G).heap H locs → lv_has ls (gL G) lv → W (gp G) (gl G) (ge G) (gR G) (gs G) (gm G) (ga G) (gb G) (gh G) (gc G) H locs (gk G) (gn G) (gQ G) (F0 (gm G) pc ls st)
def CL (G : GG) (a2 : Nat → Nat) (b L : Nat) (xs : Nat → Int32) : Prop :=
  (gp G).tables.exec = Jvm.exec ∧ (gc G).code = code ∧ (gc G).maxLocals = gL G ∧ (gs G).vm.findClass RL = some (gm G).cls ∧ (∀ w ∈ big, w.before (ga G) (gs G) = true) ∧ va_K (gD G) vwCl (tys (gy G)) (gs G) ∧ (∀ c m, va_D (gA G) (wd SC (ad G) (gy G) c ++ wd SM a2 (gy G) m)) ∧ ((∀ q, (gs G).heap.size ≤ q → gA G q) ∧ (gk G ≤ (gR G).cells ∧ gn G ≤ (gR G).slots)) ∧ strX (ad G) (gA G) (gs G) ∧ (va_X b L xs (gs G) (gs G).heap ∧ b < (gs G).heap.size ∧ ¬ gA G b)
section LAW
variable {G : GG} {a2 : Nat → Nat} {b L : Nat} {xs : Nat → Int32} {pc : Nat} {lv : List (Nat × Value)} {st st0 : List Value} {c c' m m' : St}
theorem kl_aload (C : CL G a2 b L xs) {i : Fin 4} {j x : Nat} (q : Nat) (hq : lv[q]? = some (j, .ref x)) (hi : (i : Nat) = j) (d : decode code pc = .ok (.aload_n i, 1)) (kk : KL G a2 (pc + 1) lv (.ref x :: st) c m) : KL G a2 pc lv st c m := fun H locs ls hP hS hl => lv_aload_n C.1 C.2.1 d hi (lv_at hl q hq) (kk H locs ls hP hS hl)
theorem kl_iload (C : CL G a2 b L xs) {i : Fin 4} {j : Nat} {x : Int32} (q : Nat) (hq : lv[q]? = some (j, .int x)) (hi : (i : Nat) = j) (d : decode code pc = .ok (.iload_n i, 1)) (kk : KL G a2 (pc + 1) lv (.int x :: st) c m) : KL G a2 pc lv st c m := fun H locs ls hP hS hl => lv_iload_n C.1 C.2.1 d hi (lv_at hl q hq) (kk H locs ls hP hS hl)
theorem kl_iconst (C : CL G a2 b L xs) {n : Int} {v : Int32} (hv : Int32.ofInt n = v) (d : decode code pc = .ok (.iconst n, 1)) (kk : KL G a2 (pc + 1) lv (.int v :: st) c m) : KL G a2 pc lv st c m := fun H locs ls hP hS hl => lv_iconst C.1 C.2.1 d hv (kk H locs ls hP hS hl)
theorem kl_bipush (C : CL G a2 b L xs) {n : Int} {v : Int32} (hv : (Int8.ofInt n).toInt32 = v) (d : decode code pc = .ok (.bipush n, 2)) (kk : KL G a2 (pc + 2) lv (.int v :: st) c m) : KL G a2 pc lv st c m := fun H locs ls hP hS hl => lv_bipush C.1 C.2.1 d hv (kk H locs ls hP hS hl)
theorem kl_iadd (C : CL G a2 b L xs) {x y v : Int32} (hv : x + y = v) (d : decode code pc = .ok (.iadd, 1)) (kk : KL G a2 (pc + 1) lv (.int v :: st) c m) : KL G a2 pc lv (.int y :: .int x :: st) c m := fun H locs ls hP hS hl => by subst hv; exact lv_iadd C.1 C.2.1 d (kk H locs ls hP hS hl)
theorem kl_isub (C : CL G a2 b L xs) {x y : Int32} (d : decode code pc = .ok (.isub, 1)) (kk : KL G a2 (pc + 1) lv (.int (x - y) :: st) c m) : KL G a2 pc lv (.int y :: .int x :: st) c m := fun H locs ls hP hS hl => lv_isub C.1 C.2.1 d (kk H locs ls hP hS hl)
theorem kl_iand (C : CL G a2 b L xs) {x y : Int32} (d : decode code pc = .ok (.iand, 1)) (kk : KL G a2 (pc + 1) lv (.int (x &&& y) :: st) c m) : KL G a2 pc lv (.int y :: .int x :: st) c m := fun H locs ls hP hS hl => lv_iand C.1 C.2.1 d (kk H locs ls hP hS hl)
theorem kl_len (C : CL G a2 b L xs) (d : decode code pc = .ok (.arraylength, 1)) (kk : KL G a2 (pc + 1) lv (.int (Int32.ofNat L) :: st) c m) : KL G a2 pc lv (.ref b :: st) c m := fun H locs ls hP hS hl => va_slen C.1 C.2.1 C.2.2.2.2.2.2.2.2.2.1 C.2.2.2.2.2.2.2.2.2.2.1 C.2.2.2.2.2.2.2.2.2.2.2 hS d (kk H locs ls hP hS hl)
theorem kl_ld (C : CL G a2 b L xs) {j : Nat} (hj : j < L) (hL : L < 2 ^ 31) (d : decode code pc = .ok (.iaload, 1)) (kk : KL G a2 (pc + 1) lv (.int (xs j) :: st) c m) : KL G a2 pc lv (.int (nI j) :: .ref b :: st) c m := fun H locs ls hP hS hl => by
  refine va_sld C.1 C.2.1 C.2.2.2.2.2.2.2.2.2.1 C.2.2.2.2.2.2.2.2.2.2.1 C.2.2.2.2.2.2.2.2.2.2.2 hS (vp_in_nI hj hL) d ?_
  rw [nI_clamp (by omega)]
  exact kk H locs ls hP hS hl
theorem kl_gt (C : CL G a2 b L xs) {x y : Int32} {off : Int} {tgt : Nat} (d : decode code pc = .ok (.if_icmp .gt off, 3)) (ht : (pc : Int) + off = (tgt : Int)) (kt : y < x → KL G a2 tgt lv st c m) (kf : ¬ y < x → KL G a2 (pc + 3) lv st c m) : KL G a2 pc lv (.int y :: .int x :: st) c m := fun H locs ls hP hS hl => lv_icmp_gt C.1 C.2.1 d ht (fun h => kt h H locs ls hP hS hl) (fun h => kf h H locs ls hP hS hl)
theorem kl_eq (C : CL G a2 b L xs) {x : Int32} {off : Int} {tgt : Nat} (d : decode code pc = .ok (.if_icmp .eq off, 3)) (ht : (pc : Int) + off = (tgt : Int)) (kt : KL G a2 tgt lv st c m) : KL G a2 pc lv (.int x :: .int x :: st) c m := fun H locs ls hP hS hl => lv_icmp_eq C.1 C.2.1 d ht (fun _ => kt H locs ls hP hS hl) (fun h => absurd rfl h)
theorem kl_goto (C : CL G a2 b L xs) {off : Int} {tgt : Nat} (d : decode code pc = .ok (.goto off, 3)) (ht : (pc : Int) + off = (tgt : Int)) (k : KL G a2 tgt lv st c m) : KL G a2 pc lv st c m := fun H locs ls hP hS hl => lv_goto C.1 C.2.1 d ht (k H locs ls hP hS hl)
theorem kl_tabIn (C : CL G a2 b L xs) {dflt lo hi : Int} {offs : Array Int} {len : Nat} {x v : Int32} {off : Int} {tgt : Nat} (d : decode code pc = .ok (.tableswitch dflt lo hi offs, len)) (hx : x = v) (h1 : ¬ v.toInt < lo) (h2 : ¬ hi < v.toInt) (ho' : offs[(v.toInt - lo).toNat]? = some off) (ht : (pc : Int) + off = (tgt : Int)) (k : KL G a2 tgt lv st c m) : KL G a2 pc lv (.int x :: st) c m := fun H locs ls hP hS hl => by
  subst hx
  exact lv_tableIn C.1 C.2.1 d h1 h2 ho' ht (k H locs ls hP hS hl)
theorem kl_tabOut (C : CL G a2 b L xs) {dflt lo hi : Int} {offs : Array Int} {len : Nat} {x : Int32} {tgt : Nat} (d : decode code pc = .ok (.tableswitch dflt lo hi offs, len)) (h : x.toInt < lo ∨ hi < x.toInt) (ht : (pc : Int) + dflt = (tgt : Int)) (k : KL G a2 tgt lv st c m) : KL G a2 pc lv (.int x :: st) c m := fun H locs ls hP hS hl => lv_tableOut C.1 C.2.1 d h ht (k H locs ls hP hS hl)
theorem kl_iinc (C : CL G a2 b L xs) {i : Nat} {n : Int} {x v : Int32} {lv' : List (Nat × Value)} (q : Nat) (hq : lv[q]? = some (i, .int x)) (hv : x + Int32.ofInt n = v) (hn : i < gL G) (hl' : (i, Value.int v) :: lv.filter (fun q => !(q.1 == i) && !(q.1 + 1 == i && q.2.category == 2)) = lv') (d : decode code pc = .ok (.iinc i n, 3)) (k : KL G a2 (pc + 3) lv' st c m) : KL G a2 pc lv st c m := fun H locs ls hP hS hl => lv_iinc C.1 C.2.1 d hl hq hv hn hl' (fun ls h => k H locs ls hP hS h)
theorem kl_lv {lv' : List (Nat × Value)} (ks : List Nat) (h : lv_pick lv ks = lv') (k : KL G a2 pc lv' st c m) : KL G a2 pc lv st c m := fun H locs ls hP hS hl => k H locs ls hP hS (lv_sub hl ks h)
/-- the two parts of the world -/
theorem w_left {D : va_G} {w1 w2 : va_W} {H : Heap} (h : va_P D vwCl (w1 ++ w2) H) : va_P D vwCl w1 H := fun k q hk => h k q (by rw [List.getElem?_append_left (List.getElem?_eq_some_iff.mp hk).1]; exact hk)
theorem w_right {D : va_G} {w1 w2 : va_W} {H : Heap} (h : va_P D vwCl (w1 ++ w2) H) : va_P D vwCl w2 H := fun k q hk => h (w1.length + k) q (by rw [List.getElem?_append_right (by omega), Nat.add_sub_cancel_left]; exact hk)
theorem w_apart (c m : St) (C : CL G a2 b L xs) {i j : Nat} (hi : i < SC.1) (hj : j < SM.1) : ad G i ≠ a2 j := by
  intro e
  have hD := C.2.2.2.2.2.2.1 c m
  have h1 : (wd SC (ad G) (gy G) c ++ wd SM a2 (gy G) m)[i]? = some (ad G i, ce SC (ad G) (gy G) c i) := by rw [List.getElem?_append_left (by rw [wd_len]; exact hi)]; exact wd_get hi
  have h2 : (wd SC (ad G) (gy G) c ++ wd SM a2 (gy G) m)[SC.1 + j]? = some (a2 j, ce SM a2 (gy G) m j) := by rw [List.getElem?_append_right (by rw [wd_len]; omega), wd_len, Nat.add_sub_cancel_left]; exact wd_get hj
  have := hD.1 _ _ _ _ h1 h2 e
  omega
theorem w_D1 (C : CL G a2 b L xs) (c m : St) : va_D (gA G) (wd SC (ad G) (gy G) c) := by
  have hD := C.2.2.2.2.2.2.1 c m
  refine ⟨fun i j p q hi hj e => ?_, fun k q hk => ?_⟩
  · exact hD.1 i j p q (by rw [List.getElem?_append_left (List.getElem?_eq_some_iff.mp hi).1]; exact hi) (by rw [List.getElem?_append_left (List.getElem?_eq_some_iff.mp hj).1]; exact hj) e
  · exact hD.2 k q (by rw [List.getElem?_append_left (List.getElem?_eq_some_iff.mp hk).1]; exact hk)
theorem w_D2 (C : CL G a2 b L xs) (c m : St) : va_D (gA G) (wd SM a2 (gy G) m) := by
  have hD := C.2.2.2.2.2.2.1 c m
  have e : ∀ (k : Nat) (q : Nat × va_E), (wd SM a2 (gy G) m)[k]? = some q → (wd SC (ad G) (gy G) c ++ wd SM a2 (gy G) m)[(wd SC (ad G) (gy G) c).length + k]? = some q := fun k q hk => by
    rw [List.getElem?_append_right (by omega), Nat.add_sub_cancel_left]; exact hk
  refine ⟨fun i j p q hi hj z => ?_, fun k q hk => hD.2 _ q (e k q hk)⟩
  have := hD.1 _ _ p q (e i p hi) (e j q hj) z
  omega
variable {y : MethodName} {bytes : ByteArray} {maxL fr lo n index N : Nat} {ret : Option FieldType} {av : (Nat → Nat) → List Value} {r : Int32} {As : List Value} {T : u_T} {ty : Nat → FieldType}
theorem kl_callC (C : CL G a2 b L xs) (F : FX 9 y.cls T N ty) (Lk0 : LkV RL index y bytes maxL ret n) (hR : fr + 1 ≤ (gR G).frames ∧ 8 + (maxL + 11) + lo ≤ (gR G).locals) (hM : CT SC (gl G) y bytes maxL ret fr lo av c c' (fun _ => some (.int r))) (hav : av (ad G) = .ref (ad G 0) :: As) (hn : As.length = n) (hst : st0 = As.reverse ++ .ref (ad G 0) :: st) (hrm : (st.map fun v => v.category).sum ≤ 8) (d : decode code pc = .ok (.invokevirtual index, 3))
    (kk : KL G a2 (pc + 3) lv (.int r :: st) c' m) : KL G a2 pc lv st0 c m := by
  intro H locs ls hP hS hl T0 hT X
  have hw := C.2.2.2.2.1
  have hM := hM (gD G) (ad G) (gy G) H.size
  rw [hav] at hM
  subst hst
  have hP1 := w_left hP
  have hP2 := w_right hP
  have hD1 := w_D1 C c m
  have hAA : ∀ q, AA SC (ad G) H.size q → gA G q := by
    rintro q (⟨i, hi, rfl⟩ | hq)
    · exact hD1.2 i _ (wd_get hi)
    · exact C.2.2.2.2.2.2.2.1.1 q (Nat.le_trans hS.1 hq)
  obtain ⟨v, st₀, t, T', Lo, h0, X', hL, e1, e2, ⟨⟨hv, hP'⟩, hz, hk⟩, go⟩ := va_runV (As := As) (rest := st) ⟨C.1, C.2.1, C.2.2.1, C.2.2.2.1, hw⟩ hM ⟨callB_of n hw (good_big Lk0.1.1) rfl rfl rfl (hw _ Lk0.1.2.2.1) (hw _ Lk0.1.2.1) Lk0.1.2.2.2 hR, hw _ Lk0.2.1, hw _ Lk0.2.2⟩
    ⟨blind okX_C, va_recv C.2.2.2.2.2.1 hP1 F.2.1 (by rw [wd_get oC_0.1, ce_obj oC_0.2 F.1]), fun U hU hW => ⟨rfl, by rw [hU], by rw [hU]; exact hP1, va_K.moved hW.alike C.2.2.2.2.2.1, wd_D hD1 (fun _ _ => trivial), okX_C _ _ _ _ U C.2.2.2.2.2.2.2.2.1 (Or.inl hW) (fun q h1 h2 => by rw [hU]; exact hS.2.1 q h1 h2) hAA⟩⟩ rfl hn hl.1 rfl (lv_room hrm) d C.2.2.2.2.2.2.2.1.2 T0 hT X
  cases hv
  rw [h0] at hz hk
  have hP3 : va_P (gD G) vwCl (wd SM a2 (gy G) m) t.heap := by
    refine va_P.kept hP2 (fun k q hq => ?_)
    have hlt := (hP2 k q hq).lt
    obtain ⟨hk1, rfl⟩ := wd_some hq
    refine hk _ hlt ?_
    rintro (⟨i, hi, e⟩ | hq2)
    · exact w_apart c m C hi hk1 e.symm
    · exact absurd hlt (Nat.not_lt.mpr hq2)
  obtain ⟨t2, a1, b1⟩ := kk T'.heap (locs ++ Lo) ls (by rw [e1]; exact hP'.app hP3) ⟨Nat.le_trans hS.1 (by rw [e1]; exact hz), fun q h1 h2 => by rw [e1, hk q (Nat.lt_of_lt_of_le h1 hS.1) (fun z => h2 (hAA q z))]; exact hS.2.1 q h1 h2, fun q hq => by
      rcases List.mem_append.mp hq with h | h
      · exact hS.2.2 q h
      · exact hAA _ (hL q h)⟩ hl T' rfl X'
  exact ⟨t2, go t2 a1, b1⟩
theorem kl_callM (C : CL G a2 b L xs) (F : FX 10 y.cls T N ty) (Lk0 : LkV RL index y bytes maxL ret n) (hR : fr + 1 ≤ (gR G).frames ∧ 8 + (maxL + 11) + lo ≤ (gR G).locals) (hM : CT SM (gl G) y bytes maxL ret fr lo av m m' (fun _ => some (.int r))) (hav : av a2 = .ref (a2 0) :: As) (hn : As.length = n) (hst : st0 = As.reverse ++ .ref (a2 0) :: st) (hrm : (st.map fun v => v.category).sum ≤ 8) (d : decode code pc = .ok (.invokevirtual index, 3))
    (kk : KL G a2 (pc + 3) lv (.int r :: st) c m') : KL G a2 pc lv st0 c m := by
  intro H locs ls hP hS hl T0 hT X
  have hw := C.2.2.2.2.1
  have hM := hM (gD G) a2 (gy G) H.size
  rw [hav] at hM
  subst hst
  have hP1 := w_left hP
  have hP2 := w_right hP
  have hD2 := w_D2 C c m
  have hAA : ∀ q, AA SM a2 H.size q → gA G q := by
    rintro q (⟨i, hi, rfl⟩ | hq)
    · exact hD2.2 i _ (wd_get hi)
    · exact C.2.2.2.2.2.2.2.1.1 q (Nat.le_trans hS.1 hq)
  obtain ⟨v, st₀, t, T', Lo, h0, X', hL, e1, e2, ⟨⟨hv, hP'⟩, hz, hk⟩, go⟩ := va_runV (As := As) (rest := st) ⟨C.1, C.2.1, C.2.2.1, C.2.2.2.1, hw⟩ hM ⟨callB_of n hw (good_big Lk0.1.1) rfl rfl rfl (hw _ Lk0.1.2.2.1) (hw _ Lk0.1.2.1) Lk0.1.2.2.2 hR, hw _ Lk0.2.1, hw _ Lk0.2.2⟩
    ⟨blind okX_M, va_recv C.2.2.2.2.2.1 hP2 F.2.1 (by rw [wd_get oS_0.1, ce_obj oS_0.2 F.1]), fun U hU hW => ⟨rfl, by rw [hU], by rw [hU]; exact hP2, va_K.moved hW.alike C.2.2.2.2.2.1, wd_D hD2 (fun _ _ => trivial), trivial⟩⟩ rfl hn hl.1 rfl (lv_room hrm) d C.2.2.2.2.2.2.2.1.2 T0 hT X
  cases hv
  rw [h0] at hz hk
  have hP3 : va_P (gD G) vwCl (wd SC (ad G) (gy G) c) t.heap := by
    refine va_P.kept hP1 (fun k q hq => ?_)
    have hlt := (hP1 k q hq).lt
    obtain ⟨hk1, rfl⟩ := wd_some hq
    refine hk _ hlt ?_
    rintro (⟨i, hi, e⟩ | hq2)
    · exact w_apart c m C hk1 hi e
    · exact absurd hlt (Nat.not_lt.mpr hq2)
  obtain ⟨t2, a1, b1⟩ := kk T'.heap (locs ++ Lo) ls (by rw [e1]; exact hP3.app hP') ⟨Nat.le_trans hS.1 (by rw [e1]; exact hz), fun q h1 h2 => by rw [e1, hk q (Nat.lt_of_lt_of_le h1 hS.1) (fun z => h2 (hAA q z))]; exact hS.2.1 q h1 h2, fun q hq => by
      rcases List.mem_append.mp hq with h | h
      · exact hS.2.2 q h
      · exact hAA _ (hL q h)⟩ hl T' rfl X'
  exact ⟨t2, go t2 a1, b1⟩
end LAW
/-- feed: both answer, alike, and stay related -/
def Sim_feed (Rel : St → St → Prop) : Prop := ∀ c m, Rel c m → ∀ x1 x2 x3 x4 x5 : Int32, ∃ r c' m', f_SB_feed x1 x2 x3 x4 x5 c = some (r, c') ∧ f_Mo_feed x1 x2 x3 x4 x5 m = some (r, m') ∧ Rel c' m'
/-- end: both answer, alike, and stay related -/
def Sim_end (Rel : St → St → Prop) : Prop := ∀ c m, Rel c m → ∀ x1 : Int32, ∃ r c' m', f_SB_end x1 c = some (r, c') ∧ f_Mo_end x1 m = some (r, m') ∧ Rel c' m'
/-- assemble: both answer, alike, and stay related -/
def Sim_assemble (Rel : St → St → Prop) : Prop := ∀ c m, Rel c m → ∃ r c' m', f_SB_assemble c = some (r, c') ∧ f_Mo_assemble m = some (r, m') ∧ Rel c' m'
/-- fault: both answer, alike, and stay related -/
def Sim_fault (Rel : St → St → Prop) : Prop := ∀ c m, Rel c m → ∀ x1 : Int32, ∃ r, f_SB_fault x1 c = some r ∧ f_Mo_fault x1 m = some r
/-- begin: both answer, alike, and stay related -/
def Sim_begin (Rel : St → St → Prop) : Prop := ∀ c m, Rel c m → ∀ x1 x2 : Int32, ∃ r c' m', f_SB_begin x1 x2 c = some (r, c') ∧ f_Mo_begin x1 x2 m = some (r, m') ∧ Rel c' m'
/-- input: both answer, alike, and stay related -/
def Sim_input (Rel : St → St → Prop) : Prop := ∀ c m, Rel c m → ∀ x1 : Int32, ∃ r c' m', f_SB_input x1 c = some (r, c') ∧ f_Mo_input x1 m = some (r, m') ∧ Rel c' m'
/-- suppress: both answer, alike, and stay related -/
def Sim_suppress (Rel : St → St → Prop) : Prop := ∀ c m, Rel c m → ∀ x1 x2 x3 : Int32, ∃ r c' m', f_SB_suppress x1 x2 x3 c = some (r, c') ∧ f_Mo_suppress x1 x2 x3 m = some (r, m') ∧ Rel c' m'
/-- run: both answer, alike, and stay related -/
def Sim_run (Rel : St → St → Prop) : Prop := ∀ c m, Rel c m → ∀ x1 : Int32, ∃ r c' m', f_SB_run x1 c = some (r, c') ∧ f_Mo_run x1 m = some (r, m') ∧ Rel c' m'
/-- state: both answer, alike, and stay related -/
def Sim_state (Rel : St → St → Prop) : Prop := ∀ c m, Rel c m → ∀ x1 : Int32, ∃ r, f_SB_state x1 c = some r ∧ f_Mo_state x1 m = some r
/-- register: both answer, alike, and stay related -/
def Sim_register (Rel : St → St → Prop) : Prop := ∀ c m, Rel c m → ∀ x1 x2 : Int32, ∃ r, f_SB_register x1 x2 c = some r ∧ f_Mo_register x1 x2 m = some r
/-- memory: both answer, alike, and stay related -/
def Sim_memory (Rel : St → St → Prop) : Prop := ∀ c m, Rel c m → ∀ x1 x2 : Int32, ∃ r, f_SB_memory x1 x2 c = some r ∧ f_Mo_memory x1 x2 m = some r
/-- report: both answer, alike, and stay related -/
def Sim_report (Rel : St → St → Prop) : Prop := ∀ c m, Rel c m → ∀ x1 x2 : Int32, ∃ r, f_SB_report x1 x2 c = some r ∧ f_Mo_report x1 x2 m = some r
/-- output: both answer, alike, and stay related -/
def Sim_output (Rel : St → St → Prop) : Prop := ∀ c m, Rel c m → ∀ x1 : Int32, ∃ r, f_SB_output x1 c = some r ∧ f_Mo_output x1 m = some r
/-- block: both answer, alike, and stay related -/
def Sim_block (Rel : St → St → Prop) : Prop := ∀ c m, Rel c m → ∀ x1 x2 : Int32, ∃ r c' m', f_SB_block x1 x2 c = some (r, c') ∧ f_Mo_block x1 x2 m = some (r, m') ∧ Rel c' m'
/-- twin: both answer, alike, and stay related -/
def Sim_twin (Rel : St → St → Prop) : Prop := ∀ c m, Rel c m → ∀ x1 : Int32, ∃ r c' m', f_SB_twin x1 c = some (r, c') ∧ f_Mo_twin x1 m = some (r, m') ∧ Rel c' m'
def Sim (Rel : St → St → Prop) : Prop := Sim_feed Rel ∧ Sim_end Rel ∧ Sim_assemble Rel ∧ Sim_fault Rel ∧ Sim_begin Rel ∧ Sim_input Rel ∧ Sim_suppress Rel ∧ Sim_run Rel ∧ Sim_state Rel ∧ Sim_register Rel ∧ Sim_memory Rel ∧ Sim_report Rel ∧ Sim_output Rel ∧ Sim_block Rel ∧ Sim_twin Rel
theorem kL_SB_feed : LkV RL 13 yX11_feed cX11_feed 6 (some .int) 5 := ⟨⟨mem_big (mem_t2 (List.mem_of_getElem? (i := 217) (by decide +kernel))) (by decide +kernel), mem_big (mem_t2 (List.mem_of_getElem? (i := 214) (by decide +kernel))) (by decide +kernel), mem_big (mem_t1 (List.mem_of_getElem? (i := 1) (by decide +kernel))) (by decide +kernel), by decide +kernel⟩, mem_big (mem_t2 (List.mem_of_getElem? (i := 215) (by decide +kernel))) (by decide +kernel), mem_big (mem_t2 (List.mem_of_getElem? (i := 216) (by decide +kernel))) (by decide +kernel)⟩
theorem kL_Mo_feed : LkV RL 17 yX12_feed cX12_feed 8 (some .int) 5 := ⟨⟨mem_big (mem_t6 (List.mem_of_getElem? (i := 223) (by decide +kernel))) (by decide +kernel), mem_big (mem_t6 (List.mem_of_getElem? (i := 220) (by decide +kernel))) (by decide +kernel), mem_big (mem_t1 (List.mem_of_getElem? (i := 15) (by decide +kernel))) (by decide +kernel), by decide +kernel⟩, mem_big (mem_t6 (List.mem_of_getElem? (i := 221) (by decide +kernel))) (by decide +kernel), mem_big (mem_t6 (List.mem_of_getElem? (i := 222) (by decide +kernel))) (by decide +kernel)⟩
theorem kL_SB_end : LkV RL 18 yX11_end cX11_end 2 (some .int) 1 := ⟨⟨mem_big (mem_t2 (List.mem_of_getElem? (i := 225) (by decide +kernel))) (by decide +kernel), mem_big (mem_t2 (List.mem_of_getElem? (i := 222) (by decide +kernel))) (by decide +kernel), mem_big (mem_t1 (List.mem_of_getElem? (i := 1) (by decide +kernel))) (by decide +kernel), by decide +kernel⟩, mem_big (mem_t2 (List.mem_of_getElem? (i := 223) (by decide +kernel))) (by decide +kernel), mem_big (mem_t2 (List.mem_of_getElem? (i := 224) (by decide +kernel))) (by decide +kernel)⟩
theorem kL_Mo_end : LkV RL 22 yX12_end cX12_end 2 (some .int) 1 := ⟨⟨mem_big (mem_t6 (List.mem_of_getElem? (i := 227) (by decide +kernel))) (by decide +kernel), mem_big (mem_t6 (List.mem_of_getElem? (i := 224) (by decide +kernel))) (by decide +kernel), mem_big (mem_t1 (List.mem_of_getElem? (i := 15) (by decide +kernel))) (by decide +kernel), by decide +kernel⟩, mem_big (mem_t6 (List.mem_of_getElem? (i := 225) (by decide +kernel))) (by decide +kernel), mem_big (mem_t6 (List.mem_of_getElem? (i := 226) (by decide +kernel))) (by decide +kernel)⟩
theorem kL_SB_assemble : LkV RL 23 yX11_assemble cX11_assemble 3 (some .int) 0 := ⟨⟨mem_big (mem_t2 (List.mem_of_getElem? (i := 229) (by decide +kernel))) (by decide +kernel), mem_big (mem_t2 (List.mem_of_getElem? (i := 226) (by decide +kernel))) (by decide +kernel), mem_big (mem_t1 (List.mem_of_getElem? (i := 1) (by decide +kernel))) (by decide +kernel), by decide +kernel⟩, mem_big (mem_t2 (List.mem_of_getElem? (i := 227) (by decide +kernel))) (by decide +kernel), mem_big (mem_t2 (List.mem_of_getElem? (i := 228) (by decide +kernel))) (by decide +kernel)⟩
theorem kL_Mo_assemble : LkV RL 27 yX12_assemble cX12_assemble 4 (some .int) 0 := ⟨⟨mem_big (mem_t6 (List.mem_of_getElem? (i := 80) (by decide +kernel))) (by decide +kernel), mem_big (mem_t6 (List.mem_of_getElem? (i := 77) (by decide +kernel))) (by decide +kernel), mem_big (mem_t1 (List.mem_of_getElem? (i := 15) (by decide +kernel))) (by decide +kernel), by decide +kernel⟩, mem_big (mem_t6 (List.mem_of_getElem? (i := 78) (by decide +kernel))) (by decide +kernel), mem_big (mem_t6 (List.mem_of_getElem? (i := 79) (by decide +kernel))) (by decide +kernel)⟩
theorem kL_SB_fault : LkV RL 28 yX11_fault cX11_fault 2 (some .int) 1 := ⟨⟨mem_big (mem_t3 (List.mem_of_getElem? (i := 153) (by decide +kernel))) (by decide +kernel), mem_big (mem_t3 (List.mem_of_getElem? (i := 150) (by decide +kernel))) (by decide +kernel), mem_big (mem_t1 (List.mem_of_getElem? (i := 1) (by decide +kernel))) (by decide +kernel), by decide +kernel⟩, mem_big (mem_t3 (List.mem_of_getElem? (i := 151) (by decide +kernel))) (by decide +kernel), mem_big (mem_t3 (List.mem_of_getElem? (i := 152) (by decide +kernel))) (by decide +kernel)⟩
theorem kL_Mo_fault : LkV RL 31 yX12_fault cX12_fault 2 (some .int) 1 := ⟨⟨mem_big (mem_t6 (List.mem_of_getElem? (i := 219) (by decide +kernel))) (by decide +kernel), mem_big (mem_t6 (List.mem_of_getElem? (i := 216) (by decide +kernel))) (by decide +kernel), mem_big (mem_t1 (List.mem_of_getElem? (i := 15) (by decide +kernel))) (by decide +kernel), by decide +kernel⟩, mem_big (mem_t6 (List.mem_of_getElem? (i := 217) (by decide +kernel))) (by decide +kernel), mem_big (mem_t6 (List.mem_of_getElem? (i := 218) (by decide +kernel))) (by decide +kernel)⟩
theorem kL_SB_begin : LkV RL 32 yX11_begin cX11_begin 3 (some .boolean) 2 := ⟨⟨mem_big (mem_t3 (List.mem_of_getElem? (i := 157) (by decide +kernel))) (by decide +kernel), mem_big (mem_t3 (List.mem_of_getElem? (i := 154) (by decide +kernel))) (by decide +kernel), mem_big (mem_t1 (List.mem_of_getElem? (i := 1) (by decide +kernel))) (by decide +kernel), by decide +kernel⟩, mem_big (mem_t3 (List.mem_of_getElem? (i := 155) (by decide +kernel))) (by decide +kernel), mem_big (mem_t3 (List.mem_of_getElem? (i := 156) (by decide +kernel))) (by decide +kernel)⟩
theorem kL_Mo_begin : LkV RL 36 yX12_begin cX12_begin 3 (some .boolean) 2 := ⟨⟨mem_big (mem_t6 (List.mem_of_getElem? (i := 231) (by decide +kernel))) (by decide +kernel), mem_big (mem_t6 (List.mem_of_getElem? (i := 228) (by decide +kernel))) (by decide +kernel), mem_big (mem_t1 (List.mem_of_getElem? (i := 15) (by decide +kernel))) (by decide +kernel), by decide +kernel⟩, mem_big (mem_t6 (List.mem_of_getElem? (i := 229) (by decide +kernel))) (by decide +kernel), mem_big (mem_t6 (List.mem_of_getElem? (i := 230) (by decide +kernel))) (by decide +kernel)⟩
theorem kL_SB_input : LkV RL 37 yX11_input cX11_input 2 (some .int) 1 := ⟨⟨mem_big (mem_t3 (List.mem_of_getElem? (i := 161) (by decide +kernel))) (by decide +kernel), mem_big (mem_t3 (List.mem_of_getElem? (i := 158) (by decide +kernel))) (by decide +kernel), mem_big (mem_t1 (List.mem_of_getElem? (i := 1) (by decide +kernel))) (by decide +kernel), by decide +kernel⟩, mem_big (mem_t3 (List.mem_of_getElem? (i := 159) (by decide +kernel))) (by decide +kernel), mem_big (mem_t3 (List.mem_of_getElem? (i := 160) (by decide +kernel))) (by decide +kernel)⟩
theorem kL_Mo_input : LkV RL 40 yX12_input cX12_input 2 (some .int) 1 := ⟨⟨mem_big (mem_t6 (List.mem_of_getElem? (i := 235) (by decide +kernel))) (by decide +kernel), mem_big (mem_t6 (List.mem_of_getElem? (i := 232) (by decide +kernel))) (by decide +kernel), mem_big (mem_t1 (List.mem_of_getElem? (i := 15) (by decide +kernel))) (by decide +kernel), by decide +kernel⟩, mem_big (mem_t6 (List.mem_of_getElem? (i := 233) (by decide +kernel))) (by decide +kernel), mem_big (mem_t6 (List.mem_of_getElem? (i := 234) (by decide +kernel))) (by decide +kernel)⟩
theorem kL_SB_suppress : LkV RL 41 yX11_suppress cX11_suppress 4 (some .int) 3 := ⟨⟨mem_big (mem_t3 (List.mem_of_getElem? (i := 169) (by decide +kernel))) (by decide +kernel), mem_big (mem_t3 (List.mem_of_getElem? (i := 166) (by decide +kernel))) (by decide +kernel), mem_big (mem_t1 (List.mem_of_getElem? (i := 1) (by decide +kernel))) (by decide +kernel), by decide +kernel⟩, mem_big (mem_t3 (List.mem_of_getElem? (i := 167) (by decide +kernel))) (by decide +kernel), mem_big (mem_t3 (List.mem_of_getElem? (i := 168) (by decide +kernel))) (by decide +kernel)⟩
theorem kL_Mo_suppress : LkV RL 45 yX12_suppress cX12_suppress 4 (some .int) 3 := ⟨⟨mem_big (mem_t6 (List.mem_of_getElem? (i := 239) (by decide +kernel))) (by decide +kernel), mem_big (mem_t6 (List.mem_of_getElem? (i := 236) (by decide +kernel))) (by decide +kernel), mem_big (mem_t1 (List.mem_of_getElem? (i := 15) (by decide +kernel))) (by decide +kernel), by decide +kernel⟩, mem_big (mem_t6 (List.mem_of_getElem? (i := 237) (by decide +kernel))) (by decide +kernel), mem_big (mem_t6 (List.mem_of_getElem? (i := 238) (by decide +kernel))) (by decide +kernel)⟩
theorem kL_SB_run : LkV RL 46 yX11_run cX11_run 3 (some .int) 1 := ⟨⟨mem_big (mem_t3 (List.mem_of_getElem? (i := 177) (by decide +kernel))) (by decide +kernel), mem_big (mem_t3 (List.mem_of_getElem? (i := 174) (by decide +kernel))) (by decide +kernel), mem_big (mem_t1 (List.mem_of_getElem? (i := 1) (by decide +kernel))) (by decide +kernel), by decide +kernel⟩, mem_big (mem_t3 (List.mem_of_getElem? (i := 175) (by decide +kernel))) (by decide +kernel), mem_big (mem_t3 (List.mem_of_getElem? (i := 176) (by decide +kernel))) (by decide +kernel)⟩
theorem kL_Mo_run : LkV RL 49 yX12_run cX12_run 2 (some .int) 1 := ⟨⟨mem_big (mem_t7 (List.mem_of_getElem? (i := 3) (by decide +kernel))) (by decide +kernel), mem_big (mem_t7 (List.mem_of_getElem? (i := 0) (by decide +kernel))) (by decide +kernel), mem_big (mem_t1 (List.mem_of_getElem? (i := 15) (by decide +kernel))) (by decide +kernel), by decide +kernel⟩, mem_big (mem_t7 (List.mem_of_getElem? (i := 1) (by decide +kernel))) (by decide +kernel), mem_big (mem_t7 (List.mem_of_getElem? (i := 2) (by decide +kernel))) (by decide +kernel)⟩
theorem kL_SB_state : LkV RL 50 yX11_state cX11_state 2 (some .int) 1 := ⟨⟨mem_big (mem_t4 (List.mem_of_getElem? (i := 237) (by decide +kernel))) (by decide +kernel), mem_big (mem_t4 (List.mem_of_getElem? (i := 234) (by decide +kernel))) (by decide +kernel), mem_big (mem_t1 (List.mem_of_getElem? (i := 1) (by decide +kernel))) (by decide +kernel), by decide +kernel⟩, mem_big (mem_t4 (List.mem_of_getElem? (i := 235) (by decide +kernel))) (by decide +kernel), mem_big (mem_t4 (List.mem_of_getElem? (i := 236) (by decide +kernel))) (by decide +kernel)⟩
theorem kL_Mo_state : LkV RL 53 yX12_state cX12_state 2 (some .int) 1 := ⟨⟨mem_big (mem_t7 (List.mem_of_getElem? (i := 182) (by decide +kernel))) (by decide +kernel), mem_big (mem_t7 (List.mem_of_getElem? (i := 179) (by decide +kernel))) (by decide +kernel), mem_big (mem_t1 (List.mem_of_getElem? (i := 15) (by decide +kernel))) (by decide +kernel), by decide +kernel⟩, mem_big (mem_t7 (List.mem_of_getElem? (i := 180) (by decide +kernel))) (by decide +kernel), mem_big (mem_t7 (List.mem_of_getElem? (i := 181) (by decide +kernel))) (by decide +kernel)⟩
theorem kL_SB_register : LkV RL 54 yX11_register cX11_register 3 (some .int) 2 := ⟨⟨mem_big (mem_t5 (List.mem_of_getElem? (i := 9) (by decide +kernel))) (by decide +kernel), mem_big (mem_t5 (List.mem_of_getElem? (i := 6) (by decide +kernel))) (by decide +kernel), mem_big (mem_t1 (List.mem_of_getElem? (i := 1) (by decide +kernel))) (by decide +kernel), by decide +kernel⟩, mem_big (mem_t5 (List.mem_of_getElem? (i := 7) (by decide +kernel))) (by decide +kernel), mem_big (mem_t5 (List.mem_of_getElem? (i := 8) (by decide +kernel))) (by decide +kernel)⟩
theorem kL_Mo_register : LkV RL 58 yX12_register cX12_register 3 (some .int) 2 := ⟨⟨mem_big (mem_t7 (List.mem_of_getElem? (i := 186) (by decide +kernel))) (by decide +kernel), mem_big (mem_t7 (List.mem_of_getElem? (i := 183) (by decide +kernel))) (by decide +kernel), mem_big (mem_t1 (List.mem_of_getElem? (i := 15) (by decide +kernel))) (by decide +kernel), by decide +kernel⟩, mem_big (mem_t7 (List.mem_of_getElem? (i := 184) (by decide +kernel))) (by decide +kernel), mem_big (mem_t7 (List.mem_of_getElem? (i := 185) (by decide +kernel))) (by decide +kernel)⟩
theorem kL_SB_memory : LkV RL 59 yX11_memory cX11_memory 3 (some .int) 2 := ⟨⟨mem_big (mem_t5 (List.mem_of_getElem? (i := 17) (by decide +kernel))) (by decide +kernel), mem_big (mem_t5 (List.mem_of_getElem? (i := 14) (by decide +kernel))) (by decide +kernel), mem_big (mem_t1 (List.mem_of_getElem? (i := 1) (by decide +kernel))) (by decide +kernel), by decide +kernel⟩, mem_big (mem_t5 (List.mem_of_getElem? (i := 15) (by decide +kernel))) (by decide +kernel), mem_big (mem_t5 (List.mem_of_getElem? (i := 16) (by decide +kernel))) (by decide +kernel)⟩
theorem kL_Mo_memory : LkV RL 62 yX12_memory cX12_memory 3 (some .int) 2 := ⟨⟨mem_big (mem_t7 (List.mem_of_getElem? (i := 190) (by decide +kernel))) (by decide +kernel), mem_big (mem_t7 (List.mem_of_getElem? (i := 187) (by decide +kernel))) (by decide +kernel), mem_big (mem_t1 (List.mem_of_getElem? (i := 15) (by decide +kernel))) (by decide +kernel), by decide +kernel⟩, mem_big (mem_t7 (List.mem_of_getElem? (i := 188) (by decide +kernel))) (by decide +kernel), mem_big (mem_t7 (List.mem_of_getElem? (i := 189) (by decide +kernel))) (by decide +kernel)⟩
theorem kL_SB_report : LkV RL 63 yX11_report cX11_report 3 (some .int) 2 := ⟨⟨mem_big (mem_t5 (List.mem_of_getElem? (i := 25) (by decide +kernel))) (by decide +kernel), mem_big (mem_t5 (List.mem_of_getElem? (i := 22) (by decide +kernel))) (by decide +kernel), mem_big (mem_t1 (List.mem_of_getElem? (i := 1) (by decide +kernel))) (by decide +kernel), by decide +kernel⟩, mem_big (mem_t5 (List.mem_of_getElem? (i := 23) (by decide +kernel))) (by decide +kernel), mem_big (mem_t5 (List.mem_of_getElem? (i := 24) (by decide +kernel))) (by decide +kernel)⟩
theorem kL_Mo_report : LkV RL 66 yX12_report cX12_report 3 (some .int) 2 := ⟨⟨mem_big (mem_t7 (List.mem_of_getElem? (i := 194) (by decide +kernel))) (by decide +kernel), mem_big (mem_t7 (List.mem_of_getElem? (i := 191) (by decide +kernel))) (by decide +kernel), mem_big (mem_t1 (List.mem_of_getElem? (i := 15) (by decide +kernel))) (by decide +kernel), by decide +kernel⟩, mem_big (mem_t7 (List.mem_of_getElem? (i := 192) (by decide +kernel))) (by decide +kernel), mem_big (mem_t7 (List.mem_of_getElem? (i := 193) (by decide +kernel))) (by decide +kernel)⟩
theorem kL_SB_output : LkV RL 67 yX11_output cX11_output 2 (some .int) 1 := ⟨⟨mem_big (mem_t5 (List.mem_of_getElem? (i := 33) (by decide +kernel))) (by decide +kernel), mem_big (mem_t5 (List.mem_of_getElem? (i := 30) (by decide +kernel))) (by decide +kernel), mem_big (mem_t1 (List.mem_of_getElem? (i := 1) (by decide +kernel))) (by decide +kernel), by decide +kernel⟩, mem_big (mem_t5 (List.mem_of_getElem? (i := 31) (by decide +kernel))) (by decide +kernel), mem_big (mem_t5 (List.mem_of_getElem? (i := 32) (by decide +kernel))) (by decide +kernel)⟩
theorem kL_Mo_output : LkV RL 70 yX12_output cX12_output 2 (some .int) 1 := ⟨⟨mem_big (mem_t7 (List.mem_of_getElem? (i := 198) (by decide +kernel))) (by decide +kernel), mem_big (mem_t7 (List.mem_of_getElem? (i := 195) (by decide +kernel))) (by decide +kernel), mem_big (mem_t1 (List.mem_of_getElem? (i := 15) (by decide +kernel))) (by decide +kernel), by decide +kernel⟩, mem_big (mem_t7 (List.mem_of_getElem? (i := 196) (by decide +kernel))) (by decide +kernel), mem_big (mem_t7 (List.mem_of_getElem? (i := 197) (by decide +kernel))) (by decide +kernel)⟩
theorem kL_SB_block : LkV RL 71 yX11_block cX11_block 3 (some .int) 2 := ⟨⟨mem_big (mem_t5 (List.mem_of_getElem? (i := 41) (by decide +kernel))) (by decide +kernel), mem_big (mem_t5 (List.mem_of_getElem? (i := 38) (by decide +kernel))) (by decide +kernel), mem_big (mem_t1 (List.mem_of_getElem? (i := 1) (by decide +kernel))) (by decide +kernel), by decide +kernel⟩, mem_big (mem_t5 (List.mem_of_getElem? (i := 39) (by decide +kernel))) (by decide +kernel), mem_big (mem_t5 (List.mem_of_getElem? (i := 40) (by decide +kernel))) (by decide +kernel)⟩
theorem kL_Mo_block : LkV RL 74 yX12_block cX12_block 3 (some .int) 2 := ⟨⟨mem_big (mem_t7 (List.mem_of_getElem? (i := 202) (by decide +kernel))) (by decide +kernel), mem_big (mem_t7 (List.mem_of_getElem? (i := 199) (by decide +kernel))) (by decide +kernel), mem_big (mem_t1 (List.mem_of_getElem? (i := 15) (by decide +kernel))) (by decide +kernel), by decide +kernel⟩, mem_big (mem_t7 (List.mem_of_getElem? (i := 200) (by decide +kernel))) (by decide +kernel), mem_big (mem_t7 (List.mem_of_getElem? (i := 201) (by decide +kernel))) (by decide +kernel)⟩
theorem kL_SB_twin : LkV RL 75 yX11_twin cX11_twin 2 (some .int) 1 := ⟨⟨mem_big (mem_t5 (List.mem_of_getElem? (i := 84) (by decide +kernel))) (by decide +kernel), mem_big (mem_t5 (List.mem_of_getElem? (i := 81) (by decide +kernel))) (by decide +kernel), mem_big (mem_t1 (List.mem_of_getElem? (i := 1) (by decide +kernel))) (by decide +kernel), by decide +kernel⟩, mem_big (mem_t5 (List.mem_of_getElem? (i := 82) (by decide +kernel))) (by decide +kernel), mem_big (mem_t5 (List.mem_of_getElem? (i := 83) (by decide +kernel))) (by decide +kernel)⟩
theorem kL_Mo_twin : LkV RL 78 yX12_twin cX12_twin 4 (some .int) 1 := ⟨⟨mem_big (mem_t7 (List.mem_of_getElem? (i := 238) (by decide +kernel))) (by decide +kernel), mem_big (mem_t7 (List.mem_of_getElem? (i := 235) (by decide +kernel))) (by decide +kernel), mem_big (mem_t1 (List.mem_of_getElem? (i := 15) (by decide +kernel))) (by decide +kernel), by decide +kernel⟩, mem_big (mem_t7 (List.mem_of_getElem? (i := 236) (by decide +kernel))) (by decide +kernel), mem_big (mem_t7 (List.mem_of_getElem? (i := 237) (by decide +kernel))) (by decide +kernel)⟩
def hLv (G : GG) (a2 : Nat → Nat) (b i : Nat) : List (Nat × Value) := [(0, .ref b), (1, .ref (ad G 0)), (2, .ref (a2 0)), (3, .int (nI i))]
set_option maxHeartbeats 4000000 in
set_option maxRecDepth 100000 in
theorem hR1 {G : GG} (hg : gR G = room_1) (fr lo : Nat) (h : (Nat.ble (fr + 1) 12 && Nat.ble lo 462) = true) : fr + 1 ≤ (gR G).frames ∧ lo ≤ (gR G).locals := by
  rw [hg]
  have h2 := Bool.and_eq_true_iff.mp h
  exact ⟨Nat.le_of_ble_eq_true h2.1, Nat.le_of_ble_eq_true h2.2⟩
set_option maxHeartbeats 4000000 in
set_option maxRecDepth 100000 in
theorem law_feed {Rel : St → St → Prop} {G : GG} {a2 : Nat → Nat} {b L : Nat} {xs : Nat → Int32} (C : CL G a2 b L xs) (hG : gL G = 4) (hg : gR G = room_1) (hS : Sim_feed Rel) (hL : L ≤ 3072) {i : Nat} (hi : i + 6 ≤ L) {c m : St} (h : Rel c m) (ih : ∀ c m, Rel c m → KL G a2 18 [(0, .ref b), (1, .ref (ad G 0)), (2, .ref (a2 0)), (3, .int (nI (i + 6)))] [] c m) : KL G a2 108 [(0, .ref b), (1, .ref (ad G 0)), (2, .ref (a2 0)), (3, .int (nI i))] [] c m := by
  have hR := hR1 hg
  obtain ⟨r, c', m', e1, e2, h'⟩ := hS c m h (xs (i + 1)) (xs (i + 2)) (xs (i + 3)) (xs (i + 4)) (xs (i + 5))
  refine kl_aload C 1 rfl rfl dL_law_108 ?_
  refine kl_aload C 0 rfl rfl dL_law_109 ?_
  refine kl_iload C 3 rfl rfl dL_law_110 ?_
  refine kl_iconst C (v := 1) (by decide) dL_law_111 ?_
  refine kl_iadd C (v := nI (i + 1)) (nI_add i 1) dL_law_112 ?_
  refine kl_ld C (j := i + 1) (by omega) (by omega) dL_law_113 ?_
  refine kl_aload C 0 rfl rfl dL_law_114 ?_
  refine kl_iload C 3 rfl rfl dL_law_115 ?_
  refine kl_iconst C (v := 2) (by decide) dL_law_116 ?_
  refine kl_iadd C (v := nI (i + 2)) (nI_add i 2) dL_law_117 ?_
  refine kl_ld C (j := i + 2) (by omega) (by omega) dL_law_118 ?_
  refine kl_aload C 0 rfl rfl dL_law_119 ?_
  refine kl_iload C 3 rfl rfl dL_law_120 ?_
  refine kl_iconst C (v := 3) (by decide) dL_law_121 ?_
  refine kl_iadd C (v := nI (i + 3)) (nI_add i 3) dL_law_122 ?_
  refine kl_ld C (j := i + 3) (by omega) (by omega) dL_law_123 ?_
  refine kl_aload C 0 rfl rfl dL_law_124 ?_
  refine kl_iload C 3 rfl rfl dL_law_125 ?_
  refine kl_iconst C (v := 4) (by decide) dL_law_126 ?_
  refine kl_iadd C (v := nI (i + 4)) (nI_add i 4) dL_law_127 ?_
  refine kl_ld C (j := i + 4) (by omega) (by omega) dL_law_128 ?_
  refine kl_aload C 0 rfl rfl dL_law_129 ?_
  refine kl_iload C 3 rfl rfl dL_law_130 ?_
  refine kl_iconst C (v := 5) (by decide) dL_law_131 ?_
  refine kl_iadd C (v := nI (i + 5)) (nI_add i 5) dL_law_132 ?_
  refine kl_ld C (j := i + 5) (by omega) (by omega) dL_law_133 ?_
  refine kl_callC C FX_9 kL_SB_feed (hR _ _ rfl) (c_SB_feed (gl G) (xs (i + 1)) (xs (i + 2)) (xs (i + 3)) (xs (i + 4)) (xs (i + 5)) _ e1) rfl rfl rfl (Nat.le_of_ble_eq_true rfl) dL_law_134 ?_
  refine kl_aload C 2 rfl rfl dL_law_137 ?_
  refine kl_aload C 0 rfl rfl dL_law_138 ?_
  refine kl_iload C 3 rfl rfl dL_law_139 ?_
  refine kl_iconst C (v := 1) (by decide) dL_law_140 ?_
  refine kl_iadd C (v := nI (i + 1)) (nI_add i 1) dL_law_141 ?_
  refine kl_ld C (j := i + 1) (by omega) (by omega) dL_law_142 ?_
  refine kl_aload C 0 rfl rfl dL_law_143 ?_
  refine kl_iload C 3 rfl rfl dL_law_144 ?_
  refine kl_iconst C (v := 2) (by decide) dL_law_145 ?_
  refine kl_iadd C (v := nI (i + 2)) (nI_add i 2) dL_law_146 ?_
  refine kl_ld C (j := i + 2) (by omega) (by omega) dL_law_147 ?_
  refine kl_aload C 0 rfl rfl dL_law_148 ?_
  refine kl_iload C 3 rfl rfl dL_law_149 ?_
  refine kl_iconst C (v := 3) (by decide) dL_law_150 ?_
  refine kl_iadd C (v := nI (i + 3)) (nI_add i 3) dL_law_151 ?_
  refine kl_ld C (j := i + 3) (by omega) (by omega) dL_law_152 ?_
  refine kl_aload C 0 rfl rfl dL_law_153 ?_
  refine kl_iload C 3 rfl rfl dL_law_154 ?_
  refine kl_iconst C (v := 4) (by decide) dL_law_155 ?_
  refine kl_iadd C (v := nI (i + 4)) (nI_add i 4) dL_law_156 ?_
  refine kl_ld C (j := i + 4) (by omega) (by omega) dL_law_157 ?_
  refine kl_aload C 0 rfl rfl dL_law_158 ?_
  refine kl_iload C 3 rfl rfl dL_law_159 ?_
  refine kl_iconst C (v := 5) (by decide) dL_law_160 ?_
  refine kl_iadd C (v := nI (i + 5)) (nI_add i 5) dL_law_161 ?_
  refine kl_ld C (j := i + 5) (by omega) (by omega) dL_law_162 ?_
  refine kl_callM C FX_10 kL_Mo_feed (hR _ _ rfl) (c_Mo_feed (gl G) (xs (i + 1)) (xs (i + 2)) (xs (i + 3)) (xs (i + 4)) (xs (i + 5)) _ e2) rfl rfl rfl (Nat.le_of_ble_eq_true rfl) dL_law_163 ?_
  refine kl_eq C (tgt := 553) dL_law_166 (by decide) ?_
  refine kl_iinc C 3 rfl (v := nI (i + 6)) (by rw [show Int32.ofInt 6 = nI 6 by decide]; exact nI_add i 6) (by rw [hG]; decide) (lv' := [(3, .int (nI (i + 6))), (0, .ref b), (1, .ref (ad G 0)), (2, .ref (a2 0))]) rfl dL_law_553 ?_
  refine kl_goto C (tgt := 18) dL_law_556 (by decide) ?_
  refine kl_lv [1, 2, 3, 0] rfl ?_
  exact ih _ _ h'
set_option maxHeartbeats 4000000 in
set_option maxRecDepth 100000 in
theorem law_end {Rel : St → St → Prop} {G : GG} {a2 : Nat → Nat} {b L : Nat} {xs : Nat → Int32} (C : CL G a2 b L xs) (hG : gL G = 4) (hg : gR G = room_1) (hS : Sim_end Rel) (hL : L ≤ 3072) {i : Nat} (hi : i + 6 ≤ L) {c m : St} (h : Rel c m) (ih : ∀ c m, Rel c m → KL G a2 18 [(0, .ref b), (1, .ref (ad G 0)), (2, .ref (a2 0)), (3, .int (nI (i + 6)))] [] c m) : KL G a2 171 [(0, .ref b), (1, .ref (ad G 0)), (2, .ref (a2 0)), (3, .int (nI i))] [] c m := by
  have hR := hR1 hg
  obtain ⟨r, c', m', e1, e2, h'⟩ := hS c m h (xs (i + 1))
  refine kl_aload C 1 rfl rfl dL_law_171 ?_
  refine kl_aload C 0 rfl rfl dL_law_172 ?_
  refine kl_iload C 3 rfl rfl dL_law_173 ?_
  refine kl_iconst C (v := 1) (by decide) dL_law_174 ?_
  refine kl_iadd C (v := nI (i + 1)) (nI_add i 1) dL_law_175 ?_
  refine kl_ld C (j := i + 1) (by omega) (by omega) dL_law_176 ?_
  refine kl_callC C FX_9 kL_SB_end (hR _ _ rfl) (c_SB_end (gl G) (xs (i + 1)) _ e1) rfl rfl rfl (Nat.le_of_ble_eq_true rfl) dL_law_177 ?_
  refine kl_aload C 2 rfl rfl dL_law_180 ?_
  refine kl_aload C 0 rfl rfl dL_law_181 ?_
  refine kl_iload C 3 rfl rfl dL_law_182 ?_
  refine kl_iconst C (v := 1) (by decide) dL_law_183 ?_
  refine kl_iadd C (v := nI (i + 1)) (nI_add i 1) dL_law_184 ?_
  refine kl_ld C (j := i + 1) (by omega) (by omega) dL_law_185 ?_
  refine kl_callM C FX_10 kL_Mo_end (hR _ _ rfl) (c_Mo_end (gl G) (xs (i + 1)) _ e2) rfl rfl rfl (Nat.le_of_ble_eq_true rfl) dL_law_186 ?_
  refine kl_eq C (tgt := 553) dL_law_189 (by decide) ?_
  refine kl_iinc C 3 rfl (v := nI (i + 6)) (by rw [show Int32.ofInt 6 = nI 6 by decide]; exact nI_add i 6) (by rw [hG]; decide) (lv' := [(3, .int (nI (i + 6))), (0, .ref b), (1, .ref (ad G 0)), (2, .ref (a2 0))]) rfl dL_law_553 ?_
  refine kl_goto C (tgt := 18) dL_law_556 (by decide) ?_
  refine kl_lv [1, 2, 3, 0] rfl ?_
  exact ih _ _ h'
set_option maxHeartbeats 4000000 in
set_option maxRecDepth 100000 in
theorem law_assemble {Rel : St → St → Prop} {G : GG} {a2 : Nat → Nat} {b L : Nat} {xs : Nat → Int32} (C : CL G a2 b L xs) (hG : gL G = 4) (hg : gR G = room_1) (hS : Sim_assemble Rel) (hL : L ≤ 3072) {i : Nat} (hi : i + 6 ≤ L) {c m : St} (h : Rel c m) (ih : ∀ c m, Rel c m → KL G a2 18 [(0, .ref b), (1, .ref (ad G 0)), (2, .ref (a2 0)), (3, .int (nI (i + 6)))] [] c m) : KL G a2 194 [(0, .ref b), (1, .ref (ad G 0)), (2, .ref (a2 0)), (3, .int (nI i))] [] c m := by
  have hR := hR1 hg
  obtain ⟨r, c', m', e1, e2, h'⟩ := hS c m h 
  refine kl_aload C 1 rfl rfl dL_law_194 ?_
  refine kl_callC C FX_9 kL_SB_assemble (hR _ _ rfl) (c_SB_assemble (gl G)  _ e1) rfl rfl rfl (Nat.le_of_ble_eq_true rfl) dL_law_195 ?_
  refine kl_aload C 2 rfl rfl dL_law_198 ?_
  refine kl_callM C FX_10 kL_Mo_assemble (hR _ _ rfl) (c_Mo_assemble (gl G)  _ e2) rfl rfl rfl (Nat.le_of_ble_eq_true rfl) dL_law_199 ?_
  refine kl_eq C (tgt := 553) dL_law_202 (by decide) ?_
  refine kl_iinc C 3 rfl (v := nI (i + 6)) (by rw [show Int32.ofInt 6 = nI 6 by decide]; exact nI_add i 6) (by rw [hG]; decide) (lv' := [(3, .int (nI (i + 6))), (0, .ref b), (1, .ref (ad G 0)), (2, .ref (a2 0))]) rfl dL_law_553 ?_
  refine kl_goto C (tgt := 18) dL_law_556 (by decide) ?_
  refine kl_lv [1, 2, 3, 0] rfl ?_
  exact ih _ _ h'
set_option maxHeartbeats 4000000 in
set_option maxRecDepth 100000 in
theorem law_fault {Rel : St → St → Prop} {G : GG} {a2 : Nat → Nat} {b L : Nat} {xs : Nat → Int32} (C : CL G a2 b L xs) (hG : gL G = 4) (hg : gR G = room_1) (hS : Sim_fault Rel) (hL : L ≤ 3072) {i : Nat} (hi : i + 6 ≤ L) {c m : St} (h : Rel c m) (ih : ∀ c m, Rel c m → KL G a2 18 [(0, .ref b), (1, .ref (ad G 0)), (2, .ref (a2 0)), (3, .int (nI (i + 6)))] [] c m) : KL G a2 207 [(0, .ref b), (1, .ref (ad G 0)), (2, .ref (a2 0)), (3, .int (nI i))] [] c m := by
  have hR := hR1 hg
  obtain ⟨r, e1, e2⟩ := hS c m h (xs (i + 1))
  refine kl_aload C 1 rfl rfl dL_law_207 ?_
  refine kl_aload C 0 rfl rfl dL_law_208 ?_
  refine kl_iload C 3 rfl rfl dL_law_209 ?_
  refine kl_iconst C (v := 1) (by decide) dL_law_210 ?_
  refine kl_iadd C (v := nI (i + 1)) (nI_add i 1) dL_law_211 ?_
  refine kl_ld C (j := i + 1) (by omega) (by omega) dL_law_212 ?_
  refine kl_callC C FX_9 kL_SB_fault (hR _ _ rfl) (c_SB_fault (gl G) (xs (i + 1)) _ e1) rfl rfl rfl (Nat.le_of_ble_eq_true rfl) dL_law_213 ?_
  refine kl_aload C 2 rfl rfl dL_law_216 ?_
  refine kl_aload C 0 rfl rfl dL_law_217 ?_
  refine kl_iload C 3 rfl rfl dL_law_218 ?_
  refine kl_iconst C (v := 1) (by decide) dL_law_219 ?_
  refine kl_iadd C (v := nI (i + 1)) (nI_add i 1) dL_law_220 ?_
  refine kl_ld C (j := i + 1) (by omega) (by omega) dL_law_221 ?_
  refine kl_callM C FX_10 kL_Mo_fault (hR _ _ rfl) (c_Mo_fault (gl G) (xs (i + 1)) _ e2) rfl rfl rfl (Nat.le_of_ble_eq_true rfl) dL_law_222 ?_
  refine kl_eq C (tgt := 553) dL_law_225 (by decide) ?_
  refine kl_iinc C 3 rfl (v := nI (i + 6)) (by rw [show Int32.ofInt 6 = nI 6 by decide]; exact nI_add i 6) (by rw [hG]; decide) (lv' := [(3, .int (nI (i + 6))), (0, .ref b), (1, .ref (ad G 0)), (2, .ref (a2 0))]) rfl dL_law_553 ?_
  refine kl_goto C (tgt := 18) dL_law_556 (by decide) ?_
  refine kl_lv [1, 2, 3, 0] rfl ?_
  exact ih _ _ h
set_option maxHeartbeats 4000000 in
set_option maxRecDepth 100000 in
theorem law_begin {Rel : St → St → Prop} {G : GG} {a2 : Nat → Nat} {b L : Nat} {xs : Nat → Int32} (C : CL G a2 b L xs) (hG : gL G = 4) (hg : gR G = room_1) (hS : Sim_begin Rel) (hL : L ≤ 3072) {i : Nat} (hi : i + 6 ≤ L) {c m : St} (h : Rel c m) (ih : ∀ c m, Rel c m → KL G a2 18 [(0, .ref b), (1, .ref (ad G 0)), (2, .ref (a2 0)), (3, .int (nI (i + 6)))] [] c m) : KL G a2 230 [(0, .ref b), (1, .ref (ad G 0)), (2, .ref (a2 0)), (3, .int (nI i))] [] c m := by
  have hR := hR1 hg
  obtain ⟨r, c', m', e1, e2, h'⟩ := hS c m h (xs (i + 1)) (xs (i + 2))
  refine kl_aload C 1 rfl rfl dL_law_230 ?_
  refine kl_aload C 0 rfl rfl dL_law_231 ?_
  refine kl_iload C 3 rfl rfl dL_law_232 ?_
  refine kl_iconst C (v := 1) (by decide) dL_law_233 ?_
  refine kl_iadd C (v := nI (i + 1)) (nI_add i 1) dL_law_234 ?_
  refine kl_ld C (j := i + 1) (by omega) (by omega) dL_law_235 ?_
  refine kl_aload C 0 rfl rfl dL_law_236 ?_
  refine kl_iload C 3 rfl rfl dL_law_237 ?_
  refine kl_iconst C (v := 2) (by decide) dL_law_238 ?_
  refine kl_iadd C (v := nI (i + 2)) (nI_add i 2) dL_law_239 ?_
  refine kl_ld C (j := i + 2) (by omega) (by omega) dL_law_240 ?_
  refine kl_callC C FX_9 kL_SB_begin (hR _ _ rfl) (c_SB_begin (gl G) (xs (i + 1)) (xs (i + 2)) _ e1) rfl rfl rfl (Nat.le_of_ble_eq_true rfl) dL_law_241 ?_
  refine kl_aload C 2 rfl rfl dL_law_244 ?_
  refine kl_aload C 0 rfl rfl dL_law_245 ?_
  refine kl_iload C 3 rfl rfl dL_law_246 ?_
  refine kl_iconst C (v := 1) (by decide) dL_law_247 ?_
  refine kl_iadd C (v := nI (i + 1)) (nI_add i 1) dL_law_248 ?_
  refine kl_ld C (j := i + 1) (by omega) (by omega) dL_law_249 ?_
  refine kl_aload C 0 rfl rfl dL_law_250 ?_
  refine kl_iload C 3 rfl rfl dL_law_251 ?_
  refine kl_iconst C (v := 2) (by decide) dL_law_252 ?_
  refine kl_iadd C (v := nI (i + 2)) (nI_add i 2) dL_law_253 ?_
  refine kl_ld C (j := i + 2) (by omega) (by omega) dL_law_254 ?_
  refine kl_callM C FX_10 kL_Mo_begin (hR _ _ rfl) (c_Mo_begin (gl G) (xs (i + 1)) (xs (i + 2)) _ e2) rfl rfl rfl (Nat.le_of_ble_eq_true rfl) dL_law_255 ?_
  refine kl_eq C (tgt := 553) dL_law_258 (by decide) ?_
  refine kl_iinc C 3 rfl (v := nI (i + 6)) (by rw [show Int32.ofInt 6 = nI 6 by decide]; exact nI_add i 6) (by rw [hG]; decide) (lv' := [(3, .int (nI (i + 6))), (0, .ref b), (1, .ref (ad G 0)), (2, .ref (a2 0))]) rfl dL_law_553 ?_
  refine kl_goto C (tgt := 18) dL_law_556 (by decide) ?_
  refine kl_lv [1, 2, 3, 0] rfl ?_
  exact ih _ _ h'
set_option maxHeartbeats 4000000 in
set_option maxRecDepth 100000 in
theorem law_input {Rel : St → St → Prop} {G : GG} {a2 : Nat → Nat} {b L : Nat} {xs : Nat → Int32} (C : CL G a2 b L xs) (hG : gL G = 4) (hg : gR G = room_1) (hS : Sim_input Rel) (hL : L ≤ 3072) {i : Nat} (hi : i + 6 ≤ L) {c m : St} (h : Rel c m) (ih : ∀ c m, Rel c m → KL G a2 18 [(0, .ref b), (1, .ref (ad G 0)), (2, .ref (a2 0)), (3, .int (nI (i + 6)))] [] c m) : KL G a2 263 [(0, .ref b), (1, .ref (ad G 0)), (2, .ref (a2 0)), (3, .int (nI i))] [] c m := by
  have hR := hR1 hg
  obtain ⟨r, c', m', e1, e2, h'⟩ := hS c m h (xs (i + 1))
  refine kl_aload C 1 rfl rfl dL_law_263 ?_
  refine kl_aload C 0 rfl rfl dL_law_264 ?_
  refine kl_iload C 3 rfl rfl dL_law_265 ?_
  refine kl_iconst C (v := 1) (by decide) dL_law_266 ?_
  refine kl_iadd C (v := nI (i + 1)) (nI_add i 1) dL_law_267 ?_
  refine kl_ld C (j := i + 1) (by omega) (by omega) dL_law_268 ?_
  refine kl_callC C FX_9 kL_SB_input (hR _ _ rfl) (c_SB_input (gl G) (xs (i + 1)) _ e1) rfl rfl rfl (Nat.le_of_ble_eq_true rfl) dL_law_269 ?_
  refine kl_aload C 2 rfl rfl dL_law_272 ?_
  refine kl_aload C 0 rfl rfl dL_law_273 ?_
  refine kl_iload C 3 rfl rfl dL_law_274 ?_
  refine kl_iconst C (v := 1) (by decide) dL_law_275 ?_
  refine kl_iadd C (v := nI (i + 1)) (nI_add i 1) dL_law_276 ?_
  refine kl_ld C (j := i + 1) (by omega) (by omega) dL_law_277 ?_
  refine kl_callM C FX_10 kL_Mo_input (hR _ _ rfl) (c_Mo_input (gl G) (xs (i + 1)) _ e2) rfl rfl rfl (Nat.le_of_ble_eq_true rfl) dL_law_278 ?_
  refine kl_eq C (tgt := 553) dL_law_281 (by decide) ?_
  refine kl_iinc C 3 rfl (v := nI (i + 6)) (by rw [show Int32.ofInt 6 = nI 6 by decide]; exact nI_add i 6) (by rw [hG]; decide) (lv' := [(3, .int (nI (i + 6))), (0, .ref b), (1, .ref (ad G 0)), (2, .ref (a2 0))]) rfl dL_law_553 ?_
  refine kl_goto C (tgt := 18) dL_law_556 (by decide) ?_
  refine kl_lv [1, 2, 3, 0] rfl ?_
  exact ih _ _ h'
set_option maxHeartbeats 4000000 in
set_option maxRecDepth 100000 in
theorem law_suppress {Rel : St → St → Prop} {G : GG} {a2 : Nat → Nat} {b L : Nat} {xs : Nat → Int32} (C : CL G a2 b L xs) (hG : gL G = 4) (hg : gR G = room_1) (hS : Sim_suppress Rel) (hL : L ≤ 3072) {i : Nat} (hi : i + 6 ≤ L) {c m : St} (h : Rel c m) (ih : ∀ c m, Rel c m → KL G a2 18 [(0, .ref b), (1, .ref (ad G 0)), (2, .ref (a2 0)), (3, .int (nI (i + 6)))] [] c m) : KL G a2 286 [(0, .ref b), (1, .ref (ad G 0)), (2, .ref (a2 0)), (3, .int (nI i))] [] c m := by
  have hR := hR1 hg
  obtain ⟨r, c', m', e1, e2, h'⟩ := hS c m h (xs (i + 1)) (xs (i + 2)) (xs (i + 3))
  refine kl_aload C 1 rfl rfl dL_law_286 ?_
  refine kl_aload C 0 rfl rfl dL_law_287 ?_
  refine kl_iload C 3 rfl rfl dL_law_288 ?_
  refine kl_iconst C (v := 1) (by decide) dL_law_289 ?_
  refine kl_iadd C (v := nI (i + 1)) (nI_add i 1) dL_law_290 ?_
  refine kl_ld C (j := i + 1) (by omega) (by omega) dL_law_291 ?_
  refine kl_aload C 0 rfl rfl dL_law_292 ?_
  refine kl_iload C 3 rfl rfl dL_law_293 ?_
  refine kl_iconst C (v := 2) (by decide) dL_law_294 ?_
  refine kl_iadd C (v := nI (i + 2)) (nI_add i 2) dL_law_295 ?_
  refine kl_ld C (j := i + 2) (by omega) (by omega) dL_law_296 ?_
  refine kl_aload C 0 rfl rfl dL_law_297 ?_
  refine kl_iload C 3 rfl rfl dL_law_298 ?_
  refine kl_iconst C (v := 3) (by decide) dL_law_299 ?_
  refine kl_iadd C (v := nI (i + 3)) (nI_add i 3) dL_law_300 ?_
  refine kl_ld C (j := i + 3) (by omega) (by omega) dL_law_301 ?_
  refine kl_callC C FX_9 kL_SB_suppress (hR _ _ rfl) (c_SB_suppress (gl G) (xs (i + 1)) (xs (i + 2)) (xs (i + 3)) _ e1) rfl rfl rfl (Nat.le_of_ble_eq_true rfl) dL_law_302 ?_
  refine kl_aload C 2 rfl rfl dL_law_305 ?_
  refine kl_aload C 0 rfl rfl dL_law_306 ?_
  refine kl_iload C 3 rfl rfl dL_law_307 ?_
  refine kl_iconst C (v := 1) (by decide) dL_law_308 ?_
  refine kl_iadd C (v := nI (i + 1)) (nI_add i 1) dL_law_309 ?_
  refine kl_ld C (j := i + 1) (by omega) (by omega) dL_law_310 ?_
  refine kl_aload C 0 rfl rfl dL_law_311 ?_
  refine kl_iload C 3 rfl rfl dL_law_312 ?_
  refine kl_iconst C (v := 2) (by decide) dL_law_313 ?_
  refine kl_iadd C (v := nI (i + 2)) (nI_add i 2) dL_law_314 ?_
  refine kl_ld C (j := i + 2) (by omega) (by omega) dL_law_315 ?_
  refine kl_aload C 0 rfl rfl dL_law_316 ?_
  refine kl_iload C 3 rfl rfl dL_law_317 ?_
  refine kl_iconst C (v := 3) (by decide) dL_law_318 ?_
  refine kl_iadd C (v := nI (i + 3)) (nI_add i 3) dL_law_319 ?_
  refine kl_ld C (j := i + 3) (by omega) (by omega) dL_law_320 ?_
  refine kl_callM C FX_10 kL_Mo_suppress (hR _ _ rfl) (c_Mo_suppress (gl G) (xs (i + 1)) (xs (i + 2)) (xs (i + 3)) _ e2) rfl rfl rfl (Nat.le_of_ble_eq_true rfl) dL_law_321 ?_
  refine kl_eq C (tgt := 553) dL_law_324 (by decide) ?_
  refine kl_iinc C 3 rfl (v := nI (i + 6)) (by rw [show Int32.ofInt 6 = nI 6 by decide]; exact nI_add i 6) (by rw [hG]; decide) (lv' := [(3, .int (nI (i + 6))), (0, .ref b), (1, .ref (ad G 0)), (2, .ref (a2 0))]) rfl dL_law_553 ?_
  refine kl_goto C (tgt := 18) dL_law_556 (by decide) ?_
  refine kl_lv [1, 2, 3, 0] rfl ?_
  exact ih _ _ h'
set_option maxHeartbeats 4000000 in
set_option maxRecDepth 100000 in
theorem law_run {Rel : St → St → Prop} {G : GG} {a2 : Nat → Nat} {b L : Nat} {xs : Nat → Int32} (C : CL G a2 b L xs) (hG : gL G = 4) (hg : gR G = room_1) (hS : Sim_run Rel) (hL : L ≤ 3072) {i : Nat} (hi : i + 6 ≤ L) {c m : St} (h : Rel c m) (ih : ∀ c m, Rel c m → KL G a2 18 [(0, .ref b), (1, .ref (ad G 0)), (2, .ref (a2 0)), (3, .int (nI (i + 6)))] [] c m) : KL G a2 329 [(0, .ref b), (1, .ref (ad G 0)), (2, .ref (a2 0)), (3, .int (nI i))] [] c m := by
  have hR := hR1 hg
  obtain ⟨r, c', m', e1, e2, h'⟩ := hS c m h (xs (i + 1))
  refine kl_aload C 1 rfl rfl dL_law_329 ?_
  refine kl_aload C 0 rfl rfl dL_law_330 ?_
  refine kl_iload C 3 rfl rfl dL_law_331 ?_
  refine kl_iconst C (v := 1) (by decide) dL_law_332 ?_
  refine kl_iadd C (v := nI (i + 1)) (nI_add i 1) dL_law_333 ?_
  refine kl_ld C (j := i + 1) (by omega) (by omega) dL_law_334 ?_
  refine kl_callC C FX_9 kL_SB_run (hR _ _ rfl) (c_SB_run (gl G) (xs (i + 1)) _ e1) rfl rfl rfl (Nat.le_of_ble_eq_true rfl) dL_law_335 ?_
  refine kl_aload C 2 rfl rfl dL_law_338 ?_
  refine kl_aload C 0 rfl rfl dL_law_339 ?_
  refine kl_iload C 3 rfl rfl dL_law_340 ?_
  refine kl_iconst C (v := 1) (by decide) dL_law_341 ?_
  refine kl_iadd C (v := nI (i + 1)) (nI_add i 1) dL_law_342 ?_
  refine kl_ld C (j := i + 1) (by omega) (by omega) dL_law_343 ?_
  refine kl_callM C FX_10 kL_Mo_run (hR _ _ rfl) (c_Mo_run (gl G) (xs (i + 1)) _ e2) rfl rfl rfl (Nat.le_of_ble_eq_true rfl) dL_law_344 ?_
  refine kl_eq C (tgt := 553) dL_law_347 (by decide) ?_
  refine kl_iinc C 3 rfl (v := nI (i + 6)) (by rw [show Int32.ofInt 6 = nI 6 by decide]; exact nI_add i 6) (by rw [hG]; decide) (lv' := [(3, .int (nI (i + 6))), (0, .ref b), (1, .ref (ad G 0)), (2, .ref (a2 0))]) rfl dL_law_553 ?_
  refine kl_goto C (tgt := 18) dL_law_556 (by decide) ?_
  refine kl_lv [1, 2, 3, 0] rfl ?_
  exact ih _ _ h'
set_option maxHeartbeats 4000000 in
set_option maxRecDepth 100000 in
theorem law_state {Rel : St → St → Prop} {G : GG} {a2 : Nat → Nat} {b L : Nat} {xs : Nat → Int32} (C : CL G a2 b L xs) (hG : gL G = 4) (hg : gR G = room_1) (hS : Sim_state Rel) (hL : L ≤ 3072) {i : Nat} (hi : i + 6 ≤ L) {c m : St} (h : Rel c m) (ih : ∀ c m, Rel c m → KL G a2 18 [(0, .ref b), (1, .ref (ad G 0)), (2, .ref (a2 0)), (3, .int (nI (i + 6)))] [] c m) : KL G a2 352 [(0, .ref b), (1, .ref (ad G 0)), (2, .ref (a2 0)), (3, .int (nI i))] [] c m := by
  have hR := hR1 hg
  obtain ⟨r, e1, e2⟩ := hS c m h (xs (i + 1))
  refine kl_aload C 1 rfl rfl dL_law_352 ?_
  refine kl_aload C 0 rfl rfl dL_law_353 ?_
  refine kl_iload C 3 rfl rfl dL_law_354 ?_
  refine kl_iconst C (v := 1) (by decide) dL_law_355 ?_
  refine kl_iadd C (v := nI (i + 1)) (nI_add i 1) dL_law_356 ?_
  refine kl_ld C (j := i + 1) (by omega) (by omega) dL_law_357 ?_
  refine kl_callC C FX_9 kL_SB_state (hR _ _ rfl) (c_SB_state (gl G) (xs (i + 1)) _ e1) rfl rfl rfl (Nat.le_of_ble_eq_true rfl) dL_law_358 ?_
  refine kl_aload C 2 rfl rfl dL_law_361 ?_
  refine kl_aload C 0 rfl rfl dL_law_362 ?_
  refine kl_iload C 3 rfl rfl dL_law_363 ?_
  refine kl_iconst C (v := 1) (by decide) dL_law_364 ?_
  refine kl_iadd C (v := nI (i + 1)) (nI_add i 1) dL_law_365 ?_
  refine kl_ld C (j := i + 1) (by omega) (by omega) dL_law_366 ?_
  refine kl_callM C FX_10 kL_Mo_state (hR _ _ rfl) (c_Mo_state (gl G) (xs (i + 1)) _ e2) rfl rfl rfl (Nat.le_of_ble_eq_true rfl) dL_law_367 ?_
  refine kl_eq C (tgt := 553) dL_law_370 (by decide) ?_
  refine kl_iinc C 3 rfl (v := nI (i + 6)) (by rw [show Int32.ofInt 6 = nI 6 by decide]; exact nI_add i 6) (by rw [hG]; decide) (lv' := [(3, .int (nI (i + 6))), (0, .ref b), (1, .ref (ad G 0)), (2, .ref (a2 0))]) rfl dL_law_553 ?_
  refine kl_goto C (tgt := 18) dL_law_556 (by decide) ?_
  refine kl_lv [1, 2, 3, 0] rfl ?_
  exact ih _ _ h
set_option maxHeartbeats 4000000 in
set_option maxRecDepth 100000 in
theorem law_register {Rel : St → St → Prop} {G : GG} {a2 : Nat → Nat} {b L : Nat} {xs : Nat → Int32} (C : CL G a2 b L xs) (hG : gL G = 4) (hg : gR G = room_1) (hS : Sim_register Rel) (hL : L ≤ 3072) {i : Nat} (hi : i + 6 ≤ L) {c m : St} (h : Rel c m) (ih : ∀ c m, Rel c m → KL G a2 18 [(0, .ref b), (1, .ref (ad G 0)), (2, .ref (a2 0)), (3, .int (nI (i + 6)))] [] c m) : KL G a2 375 [(0, .ref b), (1, .ref (ad G 0)), (2, .ref (a2 0)), (3, .int (nI i))] [] c m := by
  have hR := hR1 hg
  obtain ⟨r, e1, e2⟩ := hS c m h (xs (i + 1)) (xs (i + 2))
  refine kl_aload C 1 rfl rfl dL_law_375 ?_
  refine kl_aload C 0 rfl rfl dL_law_376 ?_
  refine kl_iload C 3 rfl rfl dL_law_377 ?_
  refine kl_iconst C (v := 1) (by decide) dL_law_378 ?_
  refine kl_iadd C (v := nI (i + 1)) (nI_add i 1) dL_law_379 ?_
  refine kl_ld C (j := i + 1) (by omega) (by omega) dL_law_380 ?_
  refine kl_aload C 0 rfl rfl dL_law_381 ?_
  refine kl_iload C 3 rfl rfl dL_law_382 ?_
  refine kl_iconst C (v := 2) (by decide) dL_law_383 ?_
  refine kl_iadd C (v := nI (i + 2)) (nI_add i 2) dL_law_384 ?_
  refine kl_ld C (j := i + 2) (by omega) (by omega) dL_law_385 ?_
  refine kl_callC C FX_9 kL_SB_register (hR _ _ rfl) (c_SB_register (gl G) (xs (i + 1)) (xs (i + 2)) _ e1) rfl rfl rfl (Nat.le_of_ble_eq_true rfl) dL_law_386 ?_
  refine kl_aload C 2 rfl rfl dL_law_389 ?_
  refine kl_aload C 0 rfl rfl dL_law_390 ?_
  refine kl_iload C 3 rfl rfl dL_law_391 ?_
  refine kl_iconst C (v := 1) (by decide) dL_law_392 ?_
  refine kl_iadd C (v := nI (i + 1)) (nI_add i 1) dL_law_393 ?_
  refine kl_ld C (j := i + 1) (by omega) (by omega) dL_law_394 ?_
  refine kl_aload C 0 rfl rfl dL_law_395 ?_
  refine kl_iload C 3 rfl rfl dL_law_396 ?_
  refine kl_iconst C (v := 2) (by decide) dL_law_397 ?_
  refine kl_iadd C (v := nI (i + 2)) (nI_add i 2) dL_law_398 ?_
  refine kl_ld C (j := i + 2) (by omega) (by omega) dL_law_399 ?_
  refine kl_callM C FX_10 kL_Mo_register (hR _ _ rfl) (c_Mo_register (gl G) (xs (i + 1)) (xs (i + 2)) _ e2) rfl rfl rfl (Nat.le_of_ble_eq_true rfl) dL_law_400 ?_
  refine kl_eq C (tgt := 553) dL_law_403 (by decide) ?_
  refine kl_iinc C 3 rfl (v := nI (i + 6)) (by rw [show Int32.ofInt 6 = nI 6 by decide]; exact nI_add i 6) (by rw [hG]; decide) (lv' := [(3, .int (nI (i + 6))), (0, .ref b), (1, .ref (ad G 0)), (2, .ref (a2 0))]) rfl dL_law_553 ?_
  refine kl_goto C (tgt := 18) dL_law_556 (by decide) ?_
  refine kl_lv [1, 2, 3, 0] rfl ?_
  exact ih _ _ h
set_option maxHeartbeats 4000000 in
set_option maxRecDepth 100000 in
theorem law_memory {Rel : St → St → Prop} {G : GG} {a2 : Nat → Nat} {b L : Nat} {xs : Nat → Int32} (C : CL G a2 b L xs) (hG : gL G = 4) (hg : gR G = room_1) (hS : Sim_memory Rel) (hL : L ≤ 3072) {i : Nat} (hi : i + 6 ≤ L) {c m : St} (h : Rel c m) (ih : ∀ c m, Rel c m → KL G a2 18 [(0, .ref b), (1, .ref (ad G 0)), (2, .ref (a2 0)), (3, .int (nI (i + 6)))] [] c m) : KL G a2 408 [(0, .ref b), (1, .ref (ad G 0)), (2, .ref (a2 0)), (3, .int (nI i))] [] c m := by
  have hR := hR1 hg
  obtain ⟨r, e1, e2⟩ := hS c m h (xs (i + 1)) (xs (i + 2))
  refine kl_aload C 1 rfl rfl dL_law_408 ?_
  refine kl_aload C 0 rfl rfl dL_law_409 ?_
  refine kl_iload C 3 rfl rfl dL_law_410 ?_
  refine kl_iconst C (v := 1) (by decide) dL_law_411 ?_
  refine kl_iadd C (v := nI (i + 1)) (nI_add i 1) dL_law_412 ?_
  refine kl_ld C (j := i + 1) (by omega) (by omega) dL_law_413 ?_
  refine kl_aload C 0 rfl rfl dL_law_414 ?_
  refine kl_iload C 3 rfl rfl dL_law_415 ?_
  refine kl_iconst C (v := 2) (by decide) dL_law_416 ?_
  refine kl_iadd C (v := nI (i + 2)) (nI_add i 2) dL_law_417 ?_
  refine kl_ld C (j := i + 2) (by omega) (by omega) dL_law_418 ?_
  refine kl_callC C FX_9 kL_SB_memory (hR _ _ rfl) (c_SB_memory (gl G) (xs (i + 1)) (xs (i + 2)) _ e1) rfl rfl rfl (Nat.le_of_ble_eq_true rfl) dL_law_419 ?_
  refine kl_aload C 2 rfl rfl dL_law_422 ?_
  refine kl_aload C 0 rfl rfl dL_law_423 ?_
  refine kl_iload C 3 rfl rfl dL_law_424 ?_
  refine kl_iconst C (v := 1) (by decide) dL_law_425 ?_
  refine kl_iadd C (v := nI (i + 1)) (nI_add i 1) dL_law_426 ?_
  refine kl_ld C (j := i + 1) (by omega) (by omega) dL_law_427 ?_
  refine kl_aload C 0 rfl rfl dL_law_428 ?_
  refine kl_iload C 3 rfl rfl dL_law_429 ?_
  refine kl_iconst C (v := 2) (by decide) dL_law_430 ?_
  refine kl_iadd C (v := nI (i + 2)) (nI_add i 2) dL_law_431 ?_
  refine kl_ld C (j := i + 2) (by omega) (by omega) dL_law_432 ?_
  refine kl_callM C FX_10 kL_Mo_memory (hR _ _ rfl) (c_Mo_memory (gl G) (xs (i + 1)) (xs (i + 2)) _ e2) rfl rfl rfl (Nat.le_of_ble_eq_true rfl) dL_law_433 ?_
  refine kl_eq C (tgt := 553) dL_law_436 (by decide) ?_
  refine kl_iinc C 3 rfl (v := nI (i + 6)) (by rw [show Int32.ofInt 6 = nI 6 by decide]; exact nI_add i 6) (by rw [hG]; decide) (lv' := [(3, .int (nI (i + 6))), (0, .ref b), (1, .ref (ad G 0)), (2, .ref (a2 0))]) rfl dL_law_553 ?_
  refine kl_goto C (tgt := 18) dL_law_556 (by decide) ?_
  refine kl_lv [1, 2, 3, 0] rfl ?_
  exact ih _ _ h
set_option maxHeartbeats 4000000 in
set_option maxRecDepth 100000 in
theorem law_report {Rel : St → St → Prop} {G : GG} {a2 : Nat → Nat} {b L : Nat} {xs : Nat → Int32} (C : CL G a2 b L xs) (hG : gL G = 4) (hg : gR G = room_1) (hS : Sim_report Rel) (hL : L ≤ 3072) {i : Nat} (hi : i + 6 ≤ L) {c m : St} (h : Rel c m) (ih : ∀ c m, Rel c m → KL G a2 18 [(0, .ref b), (1, .ref (ad G 0)), (2, .ref (a2 0)), (3, .int (nI (i + 6)))] [] c m) : KL G a2 441 [(0, .ref b), (1, .ref (ad G 0)), (2, .ref (a2 0)), (3, .int (nI i))] [] c m := by
  have hR := hR1 hg
  obtain ⟨r, e1, e2⟩ := hS c m h (xs (i + 1)) (xs (i + 2))
  refine kl_aload C 1 rfl rfl dL_law_441 ?_
  refine kl_aload C 0 rfl rfl dL_law_442 ?_
  refine kl_iload C 3 rfl rfl dL_law_443 ?_
  refine kl_iconst C (v := 1) (by decide) dL_law_444 ?_
  refine kl_iadd C (v := nI (i + 1)) (nI_add i 1) dL_law_445 ?_
  refine kl_ld C (j := i + 1) (by omega) (by omega) dL_law_446 ?_
  refine kl_aload C 0 rfl rfl dL_law_447 ?_
  refine kl_iload C 3 rfl rfl dL_law_448 ?_
  refine kl_iconst C (v := 2) (by decide) dL_law_449 ?_
  refine kl_iadd C (v := nI (i + 2)) (nI_add i 2) dL_law_450 ?_
  refine kl_ld C (j := i + 2) (by omega) (by omega) dL_law_451 ?_
  refine kl_callC C FX_9 kL_SB_report (hR _ _ rfl) (c_SB_report (gl G) (xs (i + 1)) (xs (i + 2)) _ e1) rfl rfl rfl (Nat.le_of_ble_eq_true rfl) dL_law_452 ?_
  refine kl_aload C 2 rfl rfl dL_law_455 ?_
  refine kl_aload C 0 rfl rfl dL_law_456 ?_
  refine kl_iload C 3 rfl rfl dL_law_457 ?_
  refine kl_iconst C (v := 1) (by decide) dL_law_458 ?_
  refine kl_iadd C (v := nI (i + 1)) (nI_add i 1) dL_law_459 ?_
  refine kl_ld C (j := i + 1) (by omega) (by omega) dL_law_460 ?_
  refine kl_aload C 0 rfl rfl dL_law_461 ?_
  refine kl_iload C 3 rfl rfl dL_law_462 ?_
  refine kl_iconst C (v := 2) (by decide) dL_law_463 ?_
  refine kl_iadd C (v := nI (i + 2)) (nI_add i 2) dL_law_464 ?_
  refine kl_ld C (j := i + 2) (by omega) (by omega) dL_law_465 ?_
  refine kl_callM C FX_10 kL_Mo_report (hR _ _ rfl) (c_Mo_report (gl G) (xs (i + 1)) (xs (i + 2)) _ e2) rfl rfl rfl (Nat.le_of_ble_eq_true rfl) dL_law_466 ?_
  refine kl_eq C (tgt := 553) dL_law_469 (by decide) ?_
  refine kl_iinc C 3 rfl (v := nI (i + 6)) (by rw [show Int32.ofInt 6 = nI 6 by decide]; exact nI_add i 6) (by rw [hG]; decide) (lv' := [(3, .int (nI (i + 6))), (0, .ref b), (1, .ref (ad G 0)), (2, .ref (a2 0))]) rfl dL_law_553 ?_
  refine kl_goto C (tgt := 18) dL_law_556 (by decide) ?_
  refine kl_lv [1, 2, 3, 0] rfl ?_
  exact ih _ _ h
set_option maxHeartbeats 4000000 in
set_option maxRecDepth 100000 in
theorem law_output {Rel : St → St → Prop} {G : GG} {a2 : Nat → Nat} {b L : Nat} {xs : Nat → Int32} (C : CL G a2 b L xs) (hG : gL G = 4) (hg : gR G = room_1) (hS : Sim_output Rel) (hL : L ≤ 3072) {i : Nat} (hi : i + 6 ≤ L) {c m : St} (h : Rel c m) (ih : ∀ c m, Rel c m → KL G a2 18 [(0, .ref b), (1, .ref (ad G 0)), (2, .ref (a2 0)), (3, .int (nI (i + 6)))] [] c m) : KL G a2 474 [(0, .ref b), (1, .ref (ad G 0)), (2, .ref (a2 0)), (3, .int (nI i))] [] c m := by
  have hR := hR1 hg
  obtain ⟨r, e1, e2⟩ := hS c m h (xs (i + 1))
  refine kl_aload C 1 rfl rfl dL_law_474 ?_
  refine kl_aload C 0 rfl rfl dL_law_475 ?_
  refine kl_iload C 3 rfl rfl dL_law_476 ?_
  refine kl_iconst C (v := 1) (by decide) dL_law_477 ?_
  refine kl_iadd C (v := nI (i + 1)) (nI_add i 1) dL_law_478 ?_
  refine kl_ld C (j := i + 1) (by omega) (by omega) dL_law_479 ?_
  refine kl_callC C FX_9 kL_SB_output (hR _ _ rfl) (c_SB_output (gl G) (xs (i + 1)) _ e1) rfl rfl rfl (Nat.le_of_ble_eq_true rfl) dL_law_480 ?_
  refine kl_aload C 2 rfl rfl dL_law_483 ?_
  refine kl_aload C 0 rfl rfl dL_law_484 ?_
  refine kl_iload C 3 rfl rfl dL_law_485 ?_
  refine kl_iconst C (v := 1) (by decide) dL_law_486 ?_
  refine kl_iadd C (v := nI (i + 1)) (nI_add i 1) dL_law_487 ?_
  refine kl_ld C (j := i + 1) (by omega) (by omega) dL_law_488 ?_
  refine kl_callM C FX_10 kL_Mo_output (hR _ _ rfl) (c_Mo_output (gl G) (xs (i + 1)) _ e2) rfl rfl rfl (Nat.le_of_ble_eq_true rfl) dL_law_489 ?_
  refine kl_eq C (tgt := 553) dL_law_492 (by decide) ?_
  refine kl_iinc C 3 rfl (v := nI (i + 6)) (by rw [show Int32.ofInt 6 = nI 6 by decide]; exact nI_add i 6) (by rw [hG]; decide) (lv' := [(3, .int (nI (i + 6))), (0, .ref b), (1, .ref (ad G 0)), (2, .ref (a2 0))]) rfl dL_law_553 ?_
  refine kl_goto C (tgt := 18) dL_law_556 (by decide) ?_
  refine kl_lv [1, 2, 3, 0] rfl ?_
  exact ih _ _ h
set_option maxHeartbeats 4000000 in
set_option maxRecDepth 100000 in
theorem law_block {Rel : St → St → Prop} {G : GG} {a2 : Nat → Nat} {b L : Nat} {xs : Nat → Int32} (C : CL G a2 b L xs) (hG : gL G = 4) (hg : gR G = room_1) (hS : Sim_block Rel) (hL : L ≤ 3072) {i : Nat} (hi : i + 6 ≤ L) {c m : St} (h : Rel c m) (ih : ∀ c m, Rel c m → KL G a2 18 [(0, .ref b), (1, .ref (ad G 0)), (2, .ref (a2 0)), (3, .int (nI (i + 6)))] [] c m) : KL G a2 497 [(0, .ref b), (1, .ref (ad G 0)), (2, .ref (a2 0)), (3, .int (nI i))] [] c m := by
  have hR := hR1 hg
  obtain ⟨r, c', m', e1, e2, h'⟩ := hS c m h (xs (i + 1)) (xs (i + 2))
  refine kl_aload C 1 rfl rfl dL_law_497 ?_
  refine kl_aload C 0 rfl rfl dL_law_498 ?_
  refine kl_iload C 3 rfl rfl dL_law_499 ?_
  refine kl_iconst C (v := 1) (by decide) dL_law_500 ?_
  refine kl_iadd C (v := nI (i + 1)) (nI_add i 1) dL_law_501 ?_
  refine kl_ld C (j := i + 1) (by omega) (by omega) dL_law_502 ?_
  refine kl_aload C 0 rfl rfl dL_law_503 ?_
  refine kl_iload C 3 rfl rfl dL_law_504 ?_
  refine kl_iconst C (v := 2) (by decide) dL_law_505 ?_
  refine kl_iadd C (v := nI (i + 2)) (nI_add i 2) dL_law_506 ?_
  refine kl_ld C (j := i + 2) (by omega) (by omega) dL_law_507 ?_
  refine kl_callC C FX_9 kL_SB_block (hR _ _ rfl) (c_SB_block (gl G) (xs (i + 1)) (xs (i + 2)) _ e1) rfl rfl rfl (Nat.le_of_ble_eq_true rfl) dL_law_508 ?_
  refine kl_aload C 2 rfl rfl dL_law_511 ?_
  refine kl_aload C 0 rfl rfl dL_law_512 ?_
  refine kl_iload C 3 rfl rfl dL_law_513 ?_
  refine kl_iconst C (v := 1) (by decide) dL_law_514 ?_
  refine kl_iadd C (v := nI (i + 1)) (nI_add i 1) dL_law_515 ?_
  refine kl_ld C (j := i + 1) (by omega) (by omega) dL_law_516 ?_
  refine kl_aload C 0 rfl rfl dL_law_517 ?_
  refine kl_iload C 3 rfl rfl dL_law_518 ?_
  refine kl_iconst C (v := 2) (by decide) dL_law_519 ?_
  refine kl_iadd C (v := nI (i + 2)) (nI_add i 2) dL_law_520 ?_
  refine kl_ld C (j := i + 2) (by omega) (by omega) dL_law_521 ?_
  refine kl_callM C FX_10 kL_Mo_block (hR _ _ rfl) (c_Mo_block (gl G) (xs (i + 1)) (xs (i + 2)) _ e2) rfl rfl rfl (Nat.le_of_ble_eq_true rfl) dL_law_522 ?_
  refine kl_eq C (tgt := 553) dL_law_525 (by decide) ?_
  refine kl_iinc C 3 rfl (v := nI (i + 6)) (by rw [show Int32.ofInt 6 = nI 6 by decide]; exact nI_add i 6) (by rw [hG]; decide) (lv' := [(3, .int (nI (i + 6))), (0, .ref b), (1, .ref (ad G 0)), (2, .ref (a2 0))]) rfl dL_law_553 ?_
  refine kl_goto C (tgt := 18) dL_law_556 (by decide) ?_
  refine kl_lv [1, 2, 3, 0] rfl ?_
  exact ih _ _ h'
set_option maxHeartbeats 4000000 in
set_option maxRecDepth 100000 in
theorem law_twin {Rel : St → St → Prop} {G : GG} {a2 : Nat → Nat} {b L : Nat} {xs : Nat → Int32} (C : CL G a2 b L xs) (hG : gL G = 4) (hg : gR G = room_1) (hS : Sim_twin Rel) (hL : L ≤ 3072) {i : Nat} (hi : i + 6 ≤ L) {c m : St} (h : Rel c m) (ih : ∀ c m, Rel c m → KL G a2 18 [(0, .ref b), (1, .ref (ad G 0)), (2, .ref (a2 0)), (3, .int (nI (i + 6)))] [] c m) : KL G a2 530 [(0, .ref b), (1, .ref (ad G 0)), (2, .ref (a2 0)), (3, .int (nI i))] [] c m := by
  have hR := hR1 hg
  obtain ⟨r, c', m', e1, e2, h'⟩ := hS c m h (xs (i + 1))
  refine kl_aload C 1 rfl rfl dL_law_530 ?_
  refine kl_aload C 0 rfl rfl dL_law_531 ?_
  refine kl_iload C 3 rfl rfl dL_law_532 ?_
  refine kl_iconst C (v := 1) (by decide) dL_law_533 ?_
  refine kl_iadd C (v := nI (i + 1)) (nI_add i 1) dL_law_534 ?_
  refine kl_ld C (j := i + 1) (by omega) (by omega) dL_law_535 ?_
  refine kl_callC C FX_9 kL_SB_twin (hR _ _ rfl) (c_SB_twin (gl G) (xs (i + 1)) _ e1) rfl rfl rfl (Nat.le_of_ble_eq_true rfl) dL_law_536 ?_
  refine kl_aload C 2 rfl rfl dL_law_539 ?_
  refine kl_aload C 0 rfl rfl dL_law_540 ?_
  refine kl_iload C 3 rfl rfl dL_law_541 ?_
  refine kl_iconst C (v := 1) (by decide) dL_law_542 ?_
  refine kl_iadd C (v := nI (i + 1)) (nI_add i 1) dL_law_543 ?_
  refine kl_ld C (j := i + 1) (by omega) (by omega) dL_law_544 ?_
  refine kl_callM C FX_10 kL_Mo_twin (hR _ _ rfl) (c_Mo_twin (gl G) (xs (i + 1)) _ e2) rfl rfl rfl (Nat.le_of_ble_eq_true rfl) dL_law_545 ?_
  refine kl_eq C (tgt := 553) dL_law_548 (by decide) ?_
  refine kl_iinc C 3 rfl (v := nI (i + 6)) (by rw [show Int32.ofInt 6 = nI 6 by decide]; exact nI_add i 6) (by rw [hG]; decide) (lv' := [(3, .int (nI (i + 6))), (0, .ref b), (1, .ref (ad G 0)), (2, .ref (a2 0))]) rfl dL_law_553 ?_
  refine kl_goto C (tgt := 18) dL_law_556 (by decide) ?_
  refine kl_lv [1, 2, 3, 0] rfl ?_
  exact ih _ _ h'
set_option maxHeartbeats 4000000 in
set_option maxRecDepth 100000 in
theorem law_loop {Rel : St → St → Prop} {G : GG} {a2 : Nat → Nat} {b L : Nat} {xs : Nat → Int32} (C : CL G a2 b L xs) (hG : gL G = 4) (hg : gR G = room_1) (hS : Sim Rel) (hL : L ≤ 3072)
    (hend : ∀ lv c m, KL G a2 559 lv [] c m) : ∀ (k i : Nat) (c m : St), L + 6 ≤ i + k → i ≤ L + 6 → Rel c m → KL G a2 18 [(0, .ref b), (1, .ref (ad G 0)), (2, .ref (a2 0)), (3, .int (nI i))] [] c m := by
  intro k
  induction k using Nat.strongRecOn with
  | _ k IH =>
  intro i c m hk hi h
  have step : i + 6 ≤ L → KL G a2 27 [(0, .ref b), (1, .ref (ad G 0)), (2, .ref (a2 0)), (3, .int (nI i))] [] c m := by
    intro hi6
    have ih : ∀ c m, Rel c m → KL G a2 18 [(0, .ref b), (1, .ref (ad G 0)), (2, .ref (a2 0)), (3, .int (nI (i + 6)))] [] c m := fun c m h => IH (k - 6) (by omega) (i + 6) c m (by omega) (by omega) h
    refine kl_aload C 0 rfl rfl dL_law_27 ?_
    refine kl_iload C 3 rfl rfl dL_law_28 ?_
    refine kl_ld C (j := i) (by omega) (by omega) dL_law_29 ?_
    refine kl_bipush C (v := 15) (by decide) dL_law_30 ?_
    refine kl_iand C dL_law_32 ?_
    generalize xs i &&& 15 = x
    by_cases h0 : x = 0
    · exact kl_tabIn C dL_law_33 h0 (by decide) (by decide) rfl (tgt := 108) (by decide) (law_feed C hG hg hS.1 hL hi6 h ih)
    by_cases h1 : x = 1
    · exact kl_tabIn C dL_law_33 h1 (by decide) (by decide) rfl (tgt := 171) (by decide) (law_end C hG hg hS.2.1 hL hi6 h ih)
    by_cases h2 : x = 2
    · exact kl_tabIn C dL_law_33 h2 (by decide) (by decide) rfl (tgt := 194) (by decide) (law_assemble C hG hg hS.2.2.1 hL hi6 h ih)
    by_cases h3 : x = 3
    · exact kl_tabIn C dL_law_33 h3 (by decide) (by decide) rfl (tgt := 207) (by decide) (law_fault C hG hg hS.2.2.2.1 hL hi6 h ih)
    by_cases h4 : x = 4
    · exact kl_tabIn C dL_law_33 h4 (by decide) (by decide) rfl (tgt := 230) (by decide) (law_begin C hG hg hS.2.2.2.2.1 hL hi6 h ih)
    by_cases h5 : x = 5
    · exact kl_tabIn C dL_law_33 h5 (by decide) (by decide) rfl (tgt := 263) (by decide) (law_input C hG hg hS.2.2.2.2.2.1 hL hi6 h ih)
    by_cases h6 : x = 6
    · exact kl_tabIn C dL_law_33 h6 (by decide) (by decide) rfl (tgt := 286) (by decide) (law_suppress C hG hg hS.2.2.2.2.2.2.1 hL hi6 h ih)
    by_cases h7 : x = 7
    · exact kl_tabIn C dL_law_33 h7 (by decide) (by decide) rfl (tgt := 329) (by decide) (law_run C hG hg hS.2.2.2.2.2.2.2.1 hL hi6 h ih)
    by_cases h8 : x = 8
    · exact kl_tabIn C dL_law_33 h8 (by decide) (by decide) rfl (tgt := 352) (by decide) (law_state C hG hg hS.2.2.2.2.2.2.2.2.1 hL hi6 h ih)
    by_cases h9 : x = 9
    · exact kl_tabIn C dL_law_33 h9 (by decide) (by decide) rfl (tgt := 375) (by decide) (law_register C hG hg hS.2.2.2.2.2.2.2.2.2.1 hL hi6 h ih)
    by_cases h10 : x = 10
    · exact kl_tabIn C dL_law_33 h10 (by decide) (by decide) rfl (tgt := 408) (by decide) (law_memory C hG hg hS.2.2.2.2.2.2.2.2.2.2.1 hL hi6 h ih)
    by_cases h11 : x = 11
    · exact kl_tabIn C dL_law_33 h11 (by decide) (by decide) rfl (tgt := 441) (by decide) (law_report C hG hg hS.2.2.2.2.2.2.2.2.2.2.2.1 hL hi6 h ih)
    by_cases h12 : x = 12
    · exact kl_tabIn C dL_law_33 h12 (by decide) (by decide) rfl (tgt := 474) (by decide) (law_output C hG hg hS.2.2.2.2.2.2.2.2.2.2.2.2.1 hL hi6 h ih)
    by_cases h13 : x = 13
    · exact kl_tabIn C dL_law_33 h13 (by decide) (by decide) rfl (tgt := 497) (by decide) (law_block C hG hg hS.2.2.2.2.2.2.2.2.2.2.2.2.2.1 hL hi6 h ih)
    by_cases h14 : x = 14
    · exact kl_tabIn C dL_law_33 h14 (by decide) (by decide) rfl (tgt := 530) (by decide) (law_twin C hG hg hS.2.2.2.2.2.2.2.2.2.2.2.2.2.2 hL hi6 h ih)
    refine kl_tabOut C dL_law_33 (by have e0 := lv_neT h0 (a := 0) (by decide); have e1 := lv_neT h1 (a := 1) (by decide); have e2 := lv_neT h2 (a := 2) (by decide); have e3 := lv_neT h3 (a := 3) (by decide); have e4 := lv_neT h4 (a := 4) (by decide); have e5 := lv_neT h5 (a := 5) (by decide); have e6 := lv_neT h6 (a := 6) (by decide); have e7 := lv_neT h7 (a := 7) (by decide); have e8 := lv_neT h8 (a := 8) (by decide); have e9 := lv_neT h9 (a := 9) (by decide); have e10 := lv_neT h10 (a := 10) (by decide); have e11 := lv_neT h11 (a := 11) (by decide); have e12 := lv_neT h12 (a := 12) (by decide); have e13 := lv_neT h13 (a := 13) (by decide); have e14 := lv_neT h14 (a := 14) (by decide); omega) (tgt := 553) (by decide) ?_
    refine kl_iinc C 3 rfl (v := nI (i + 6)) (by rw [show Int32.ofInt 6 = nI 6 by decide]; exact nI_add i 6) (by rw [hG]; decide) (lv' := [(3, .int (nI (i + 6))), (0, .ref b), (1, .ref (ad G 0)), (2, .ref (a2 0))]) rfl dL_law_553 ?_
    refine kl_goto C (tgt := 18) dL_law_556 (by decide) ?_
    refine kl_lv [1, 2, 3, 0] rfl ?_
    exact ih _ _ h
  refine kl_iload C 3 rfl rfl dL_law_18 ?_
  refine kl_aload C 0 rfl rfl dL_law_19 ?_
  refine kl_len C dL_law_20 ?_
  refine kl_bipush C (v := 6) (by decide) dL_law_21 ?_
  refine kl_isub C dL_law_23 ?_
  refine kl_gt C (tgt := 559) dL_law_24 (by decide) (fun _ => hend _ _ _) (fun hgt => step ?_)
  rcases Nat.lt_or_ge L (i + 6) with q | q
  · exfalso
    apply hgt
    show nI L - 6 < nI i
    rw [Int32.lt_iff_toInt_lt, show (6 : Int32) = nI 6 by decide, pk_sub_toInt (by omega) (by decide), nI_toInt (by omega)]
    omega
  · exact q
