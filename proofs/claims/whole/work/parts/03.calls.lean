/-! ===== contracts over a world of fixed shape, and calls ===== -/
def rmx (fr lo : Nat) : Room := { frames := fr, cells := 0, slots := 0, locals := lo }
def AA (S : Sh) (a : Nat → Nat) (sz : Nat) : Nat → Prop := fun q => (∃ k, k < S.1 ∧ q = a k) ∨ sz ≤ q
def CT (S : Sh) (l : Launch) (y : MethodName) (cc : ByteArray) (maxL : Nat) (ret : Option FieldType) (fr lo : Nat) (av : (Nat → Nat) → List Value) (s s' : St) (r : (Nat → Nat) → Option Value) : Prop :=
  ∀ (D : va_G) (a : Nat → Nat) (cy : Nat → ClassId) (sz : Nat), Met l y (wy y cc maxL ret) (rmx fr lo)
    (va_Pc (av a) (fun U => U.heap.size = sz ∧ va_P D vwCl (wd S a cy s) U.heap ∧ va_K D vwCl (tys cy) U ∧ va_D (fun _ => True) (wd S a cy s) ∧ S.2.2.2.2 a (AA S a sz) U))
    (fun _ st o t => (o = .returned (r a) ∧ va_P D vwCl (wd S a cy s') t.heap) ∧ va_F (AA S a sz) st t) 0 0 (AA S a sz)
theorem wd_D {S : Sh} {a : Nat → Nat} {cy : Nat → ClassId} {s s' : St} {A B : Nat → Prop} (h : va_D A (wd S a cy s)) (hB : ∀ k, k < S.1 → B (a k)) : va_D B (wd S a cy s') := by
  refine ⟨fun i j p q hi hj e => ?_, fun k q hk => ?_⟩
  · obtain ⟨h1, rfl⟩ := wd_some hi
    obtain ⟨h2, rfl⟩ := wd_some hj
    exact h.1 i j _ _ (wd_get h1) (wd_get h2) e
  · obtain ⟨h1, rfl⟩ := wd_some hk
    exact hB k h1
def RtI (S : Sh) (G : GG) (cc : ByteArray) (r : Int32) (s : St) : Prop := ∀ (pc : Nat) (lv : List (Nat × Value)), decode cc pc = .ok (.ireturn, 1) → KK S G pc lv [.int r] s
def RtZ (S : Sh) (G : GG) (cc : ByteArray) (r : Int32) (s : St) : Prop := ∀ (pc : Nat) (lv : List (Nat × Value)) (v : Int32), bN v = r → decode cc pc = .ok (.ireturn, 1) → KK S G pc lv [.int v] s
def RtJ (S : Sh) (G : GG) (cc : ByteArray) (r : Int64) (s : St) : Prop := ∀ (pc : Nat) (lv : List (Nat × Value)), decode cc pc = .ok (.lreturn, 1) → KK S G pc lv [.long r] s
def RtV (S : Sh) (G : GG) (cc : ByteArray) (s : St) : Prop := ∀ (pc : Nat) (lv : List (Nat × Value)), decode cc pc = .ok (.return_, 1) → KK S G pc lv [] s
def RtA (S : Sh) (G : GG) (cc : ByteArray) (r : Nat) (s : St) : Prop := ∀ (pc : Nat) (lv : List (Nat × Value)), decode cc pc = .ok (.areturn, 1) → KK S G pc lv [.ref (ad G r)] s
section ZR
variable {p : Jvm.Program} {l : Launch} {e : Env} {R : Room} {s : State} {m : MethodId} {args : Array Value} {below : List Frame} {meth : Method} {c : Code} {H : Heap} {locs : List Loc} {cells slots : Nat}
theorem zretN {cc : ByteArray} {Qc : Array Value → State → Outcome → State → Prop} {free : Addr → Prop} {v v' : Int32} {ty : FieldType} (hexec : p.tables.exec = Jvm.exec) (hb : c.code = cc) (hr : meth.sig.returnType = some ty) (hn : narrow ty (.int v) = .int v')
    (hq : ∀ t : State, t.heap = H → s.WarmedH t.vm → Qc args s (.returned (some (.int v'))) t) (hf : ∀ q ∈ locs, free q.base)
    {pc : Nat} {ls : Array Slot} (hdg : decode cc pc = .ok (.ireturn, 1)) (hlocks : meth.locks = false) : W p l e R s m args below meth c H locs cells slots (MQ below Qc args s cells slots free) (F0 m pc ls [.int v]) := by
  intro T hT X
  obtain ⟨fs, hret, hrun, hended, hW, hframe⟩ := X.leave (v := some (.int v')) (fun h => by rw [hr] at h; cases h)
  have hmeth' : T.vm.method? m = some meth := X.method'
  refine ⟨T.setFrames fs, ?_, .returned (some (.int v')), hrun, hended, hq _ hT hW, locs, ⟨⟨_, rfl⟩, hW, hframe⟩, hf⟩
  jvm_step X.here [X.here.top, hexec, hb, hdg, hmeth', hr, hn]
  (try refine ⟨rfl, ?_⟩); (try refine ⟨rfl, ?_⟩)
  first | (intro acts; rw [hret _ acts rfl rfl rfl]) | rw [hret _ _ rfl rfl rfl]
  exact Steps.refl _
end ZR
/-- what a body must show: from any such frame the method comes to its end -/
def Bd (S : Sh) (l : Launch) (cc : ByteArray) (own : String) (maxL fr lo : Nat) (av : (Nat → Nat) → List Value) (s : St) (Rt : GG → Prop) : Prop :=
  ∀ G : GG, gl G = l → gR G = rmx fr lo → gL G = maxL → Cx S G cc own → Rt G → KK S G 0 (lv_args 0 (av (ad G))) [] s
section MK
variable {S : Sh} {l : Launch} {y : MethodName} {cc : ByteArray} {maxL fr lo : Nat} {av : (Nat → Nat) → List Value} {s s' : St} {ret : Option FieldType} {r : (Nat → Nat) → Option Value}
theorem ct_mk (hX : okX S.2.2.2.2) (Rt : GG → Prop) (hy : plainName y.cls = true) (hlen : ∀ a, (lg_sl (av a)).length ≤ maxL)
    (hRt : ∀ (G : GG) (Qc : Array Value → State → Outcome → State → Prop) (free : Addr → Prop), Cx S G cc y.cls → gQ G = MQ (gb G) Qc (ga G) (gs G) (gk G) (gn G) free → (gh G).sig.returnType = ret → (gh G).locks = false → (∀ q, gA G q → free q) → (∀ (H : Heap) (locs : List Loc), va_P (gD G) vwCl (wd S (ad G) (gy G) s') H → va_S (gA G) (gs G).heap H locs → ∀ t : State, t.heap = H → Qc (ga G) (gs G) (.returned (r (ad G))) t) → Rt G)
    (body : Bd S l cc y.cls maxL fr lo av s Rt) : CT S l y cc maxL ret fr lo av s s' r := by
  intro D a cy sz
  refine Met.ofW (cc := cc) (maxL := maxL) (ret := ret) hy rfl ?_
  intro p e s0 m args below meth c s₁ B hml hv
  obtain ⟨rfl, hsz, hP, hK, hD0, hXX⟩ := hv
  have hx := B.exec
  have hb := B.bytes
  have hr := B.returns
  have hts := atoms_spec (ws := wy y cc maxL ret) B.pre
  have hown : s0.vm.findClass y.cls = some m.cls := findClass_of_methodNamed B.named
  have hlocks := B.notSynchronized
  subst hsz
  have hl := lv_entry (av a) (n := maxL) (hlen a)
  rw [lg_entry_eq]
  generalize (lg_sl (av a) ++ List.replicate (maxL - (lg_sl (av a)).length) Slot.unset).toArray = ls at hl ⊢
  have C : Cx S ((p, l, e, rmx fr lo, s0, m, (av a).toArray, below, meth, c), (D, AA S a s0.heap.size, a, cy), maxL, MQ below (fun _ st o t => (o = .returned (r a) ∧ va_P D vwCl (wd S a cy s') t.heap) ∧ va_F (AA S a s0.heap.size) st t) (av a).toArray s0 0 0 (AA S a s0.heap.size), 0, 0) cc y.cls :=
    ⟨hx, hb, hml, hown, fun w hw => hts w (List.mem_cons_of_mem _ hw), hK, fun s => wd_D hD0 (fun k hk => Or.inl ⟨k, hk, rfl⟩), ⟨fun q h => Or.inr h, Nat.zero_le _, Nat.zero_le _⟩, hX, hXX⟩
  refine body _ rfl rfl rfl C (hRt _ (fun _ st o t => (o = .returned (r a) ∧ va_P D vwCl (wd S a cy s') t.heap) ∧ va_F (AA S a s0.heap.size) st t) (AA S a s0.heap.size) C rfl hr hlocks (fun _ h => h) ?_) s0.heap [] ls hP va_S.rf hl
  intro H locs hP1 hS1 t ht
  exact ⟨⟨rfl, by rw [ht]; exact hP1⟩, hS1.F ht⟩
theorem ct_I (hX : okX S.2.2.2.2) {r : Int32} (hy : plainName y.cls = true) (hlen : ∀ a, (lg_sl (av a)).length ≤ maxL) (body : Bd S l cc y.cls maxL fr lo av s (fun G => RtI S G cc r s')) : CT S l y cc maxL (some .int) fr lo av s s' (fun _ => some (.int r)) := by
  refine ct_mk hX (fun G => RtI S G cc r s') hy hlen ?_ body
  intro G Qc free C hQ hret hlk hfr hq pc lv d H locs ls hP hS hl
  rw [hQ]
  exact W.iret C.1 C.2.1 hret (fun t ht _ => hq H locs hP hS t ht) (fun q h => hfr _ (hS.2.2 q h)) d hlk
theorem ct_Z (hX : okX S.2.2.2.2) {r : Int32} (hy : plainName y.cls = true) (hlen : ∀ a, (lg_sl (av a)).length ≤ maxL) (body : Bd S l cc y.cls maxL fr lo av s (fun G => RtZ S G cc r s')) : CT S l y cc maxL (some .boolean) fr lo av s s' (fun _ => some (.int r)) := by
  refine ct_mk hX (fun G => RtZ S G cc r s') hy hlen ?_ body
  intro G Qc free C hQ hret hlk hfr hq pc lv v hv d H locs ls hP hS hl
  rw [hQ]
  exact zretN C.1 C.2.1 hret (by rw [narrow_z, hv]) (fun t ht _ => hq H locs hP hS t ht) (fun q h => hfr _ (hS.2.2 q h)) d hlk
theorem ct_J (hX : okX S.2.2.2.2) {r : Int64} (hy : plainName y.cls = true) (hlen : ∀ a, (lg_sl (av a)).length ≤ maxL) (body : Bd S l cc y.cls maxL fr lo av s (fun G => RtJ S G cc r s')) : CT S l y cc maxL (some .long) fr lo av s s' (fun _ => some (.long r)) := by
  refine ct_mk hX (fun G => RtJ S G cc r s') hy hlen ?_ body
  intro G Qc free C hQ hret hlk hfr hq pc lv d H locs ls hP hS hl
  rw [hQ]
  exact W.lret C.1 C.2.1 hret (fun t ht _ => hq H locs hP hS t ht) (fun q h => hfr _ (hS.2.2 q h)) d hlk
theorem ct_V (hX : okX S.2.2.2.2) (hy : plainName y.cls = true) (hlen : ∀ a, (lg_sl (av a)).length ≤ maxL) (body : Bd S l cc y.cls maxL fr lo av s (fun G => RtV S G cc s')) : CT S l y cc maxL none fr lo av s s' (fun _ => none) := by
  refine ct_mk hX (fun G => RtV S G cc s') hy hlen ?_ body
  intro G Qc free C hQ hret hlk hfr hq pc lv d H locs ls hP hS hl
  rw [hQ]
  exact W.vret C.1 C.2.1 hret (fun t ht _ => hq H locs hP hS t ht) (fun q h => hfr _ (hS.2.2 q h)) d hlk
theorem ct_A (hX : okX S.2.2.2.2) {r : Nat} {cn : String} (hy : plainName y.cls = true) (hlen : ∀ a, (lg_sl (av a)).length ≤ maxL) (body : Bd S l cc y.cls maxL fr lo av s (fun G => RtA S G cc r s')) : CT S l y cc maxL (some (.object cn)) fr lo av s s' (fun a => some (.ref (a r))) := by
  refine ct_mk hX (fun G => RtA S G cc r s') hy hlen ?_ body
  intro G Qc free C hQ hret hlk hfr hq pc lv d H locs ls hP hS hl
  rw [hQ]
  exact W.aret C.1 C.2.1 hret (Or.inl ⟨_, rfl⟩) (Or.inr ⟨_, rfl⟩) (fun t ht _ => hq H locs hP hS t ht) (fun q h => hfr _ (hS.2.2 q h)) d hlk
end MK
/-! calls -/
section CALLS
variable {S : Sh} {G : GG} {cc : ByteArray} {own : String} {β γ : Type} {Acc : β → Prop} {o : Option β} {pc : Nat} {lv : List (Nat × Value)} {st st0 : List Value} {s s' : St}
theorem jr_bind {f : Option γ} {F : γ → Option β} (h : ∀ q, f = some q → JJ S G Acc (F q) pc lv st s) : JJ S G Acc (f.bind F) pc lv st s := by
  cases f with
  | none => rintro ⟨v, hv, -⟩; cases hv
  | some q => exact h q rfl
theorem aa_in (s : St) {H : Heap} (C : Cx S G cc own) (h : (gs G).heap.size ≤ H.size) : ∀ q, AA S (ad G) H.size q → gA G q := by
  rintro q (⟨i, hi, rfl⟩ | hq)
  · exact (C.2.2.2.2.2.2.1 s).2 i _ (wd_get hi)
  · exact C.2.2.2.2.2.2.2.1.1 q (Nat.le_trans h hq)
theorem k_run {r : Option Value} (C : Cx S G cc own)
    (hrun : ∀ (H : Heap) (locs : List Loc) (ls : Array Slot), va_P (gD G) vwCl (wd S (ad G) (gy G) s) H → va_S (gA G) (gs G).heap H locs → lv_has ls (gL G) lv →
      va_Run (gp G) (gl G) (ge G) (gR G) (gs G) (gm G) (ga G) (gb G) (gh G) (gc G) H locs (gk G) (gn G) 0 0 (F0 (gm G) pc ls st0) st (fun st o t => (o = .returned r ∧ va_P (gD G) vwCl (wd S (ad G) (gy G) s') t.heap) ∧ va_F (AA S (ad G) H.size) st t) (AA S (ad G) H.size))
    (k : KK S G (pc + 3) lv (r.toList ++ st) s') : KK S G pc lv st0 s := by
  intro H locs ls hP hS hl T hT X
  obtain ⟨v, st₀, t, T', L, h0, X', hL, e1, e2, ⟨⟨hv, hP'⟩, hz, hk⟩, go⟩ := hrun H locs ls hP hS hl T hT X
  cases hv
  rw [h0] at hz hk
  have hAA := aa_in s (H := H) C (Nat.le_trans hS.1 (Nat.le_refl _))
  obtain ⟨t2, a1, b1⟩ := k T'.heap (locs ++ L) ls (by rw [e1]; exact hP') ⟨Nat.le_trans hS.1 (by rw [e1]; exact hz), fun q h1 h2 => by rw [e1, hk q (Nat.lt_of_lt_of_le h1 hS.1) (fun z => h2 (hAA q z))]; exact hS.2.1 q h1 h2, fun q hq => by
      rcases List.mem_append.mp hq with h | h
      · exact hS.2.2 q h
      · exact hAA _ (hL q h)⟩ hl T' rfl X'
  exact ⟨t2, go t2 a1, b1⟩
variable {y : MethodName} {bytes : ByteArray} {maxL fr lo n index k c N : Nat} {ret : Option FieldType} {av : (Nat → Nat) → List Value} {r : (Nat → Nat) → Option Value} {As : List Value} {T : u_T} {ty : Nat → FieldType}
theorem blind (hX : okX S.2.2.2.2) {D : va_G} {a : Nat → Nat} {cy : Nat → ClassId} {sz : Nat} {av : List Value} : FrameBlind (va_Pc av (fun U => U.heap.size = sz ∧ va_P D vwCl (wd S a cy s) U.heap ∧ va_K D vwCl (tys cy) U ∧ va_D (fun _ => True) (wd S a cy s) ∧ S.2.2.2.2 a (AA S a sz) U)) := by
  intro A U g mk q
  obtain ⟨q0, q1, qP, qK, qD, qX⟩ := q
  exact ⟨q0, q1, qP, va_K.moved (u := U) (U := U.calling g mk A) (Vm.Alike.refl U.vm) qK, qD, hX _ _ _ U _ qX (Or.inr rfl) (fun _ _ _ => rfl) (fun _ h => h)⟩
theorem jr_callV (C : Cx S G cc own) (F : FX c y.cls T N ty) (L : LkV own index y bytes maxL ret n) (hk : k < S.1) (ht : S.2.1 k = c) (hR : fr + 1 ≤ (gR G).frames ∧ 8 + (maxL + 11) + lo ≤ (gR G).locals) (hM : CT S (gl G) y bytes maxL ret fr lo av s s' r) (hav : av (ad G) = .ref (ad G k) :: As) (hn : As.length = n) (hst : st0 = As.reverse ++ .ref (ad G k) :: st) (hrm : (st.map fun v => v.category).sum ≤ 8) (d : decode cc pc = .ok (.invokevirtual index, 3))
    (kk : JJ S G Acc o (pc + 3) lv ((r (ad G)).toList ++ st) s') : JJ S G Acc o pc lv st0 s := fun ho => by
  refine k_run C (fun H locs ls hP hS hl => ?_) (kk ho)
  have hw := C.2.2.2.2.1
  have hM := hM (gD G) (ad G) (gy G) H.size
  rw [hav] at hM
  subst hst
  exact va_runV (As := As) (rest := st) ⟨C.1, C.2.1, C.2.2.1, C.2.2.2.1, hw⟩ hM ⟨callB_of n hw (good_big L.1.1) rfl rfl rfl (hw _ L.1.2.2.1) (hw _ L.1.2.1) L.1.2.2.2 hR, hw _ L.2.1, hw _ L.2.2⟩
    ⟨blind C.2.2.2.2.2.2.2.2.1, va_recv C.2.2.2.2.2.1 hP F.2.1 (by rw [wd_get hk, ce_obj ht F.1]), fun U hU hW => ⟨rfl, by rw [hU], by rw [hU]; exact hP, va_K.moved hW.alike C.2.2.2.2.2.1, wd_D (C.2.2.2.2.2.2.1 s) (fun _ _ => trivial), C.2.2.2.2.2.2.2.2.1 _ _ _ _ U C.2.2.2.2.2.2.2.2.2 (Or.inl hW) (fun q h1 h2 => by rw [hU]; exact hS.2.1 q h1 h2) (aa_in s C hS.1)⟩⟩ rfl hn hl.1 rfl (lv_room hrm) d C.2.2.2.2.2.2.2.1.2
theorem jr_callS (C : Cx S G cc own) (L : LkS own index y bytes maxL ret n) (hR : fr + 1 ≤ (gR G).frames ∧ 8 + (maxL + 11) + lo ≤ (gR G).locals) (hM : CT S (gl G) y bytes maxL ret fr lo av s s' r) (hav : av (ad G) = As) (hn : As.length = n) (hst : st0 = As.reverse ++ st) (hrm : (st.map fun v => v.category).sum ≤ 8) (d : decode cc pc = .ok (.invokestatic index, 3))
    (kk : JJ S G Acc o (pc + 3) lv ((r (ad G)).toList ++ st) s') : JJ S G Acc o pc lv st0 s := fun ho => by
  refine k_run C (fun H locs ls hP hS hl => ?_) (kk ho)
  have hw := C.2.2.2.2.1
  have hM := hM (gD G) (ad G) (gy G) H.size
  rw [hav] at hM
  subst hst
  exact va_runS (As := As) (rest := st) ⟨C.1, C.2.1, C.2.2.1, C.2.2.2.1, hw⟩ hM ⟨callB_of n hw (good_big L.1.1) rfl rfl rfl (hw _ L.1.2.2.1) (hw _ L.1.2.1) L.1.2.2.2 hR, hw _ L.2⟩
    ⟨blind C.2.2.2.2.2.2.2.2.1, fun U hU hW => ⟨rfl, by rw [hU], by rw [hU]; exact hP, va_K.moved hW.alike C.2.2.2.2.2.1, wd_D (C.2.2.2.2.2.2.1 s) (fun _ _ => trivial), C.2.2.2.2.2.2.2.2.1 _ _ _ _ U C.2.2.2.2.2.2.2.2.2 (Or.inl hW) (fun q h1 h2 => by rw [hU]; exact hS.2.1 q h1 h2) (aa_in s C hS.1)⟩⟩ rfl hn hl.1 rfl (lv_room hrm) d C.2.2.2.2.2.2.2.1.2
end CALLS
