/-! ===== further rows ===== -/
theorem ltL {G : GG} {n i : Nat} (h : gL G = n) (hb : Nat.blt i n = true) : i < gL G := by rw [h]; exact Nat.lt_of_lt_of_le (Nat.lt_succ_self i) (Nat.le_of_ble_eq_true hb)
theorem ltL2 {G : GG} {n i : Nat} (h : gL G = n) (hb : Nat.blt (i + 1) n = true) : i + 1 < gL G := ltL h hb
theorem rk {G : GG} {F L fr lo maxL : Nat} (h : gR G = rmx F L) (hb : (Nat.ble (fr + 1) F && Nat.ble (8 + (maxL + 11) + lo) L) = true) : fr + 1 ≤ (gR G).frames ∧ 8 + (maxL + 11) + lo ≤ (gR G).locals := by
  rw [h]
  have h2 := Bool.and_eq_true_iff.mp hb
  exact ⟨Nat.le_of_ble_eq_true h2.1, Nat.le_of_ble_eq_true h2.2⟩
theorem rk2 {G : GG} {F L : Nat} (h : gR G = rmx F L) (hb : (Nat.ble 1 F && Nat.ble 21 L) = true) : 1 ≤ (gR G).frames ∧ 21 ≤ (gR G).locals := by
  rw [h]
  have h2 := Bool.and_eq_true_iff.mp hb
  exact ⟨Nat.le_of_ble_eq_true h2.1, Nat.le_of_ble_eq_true h2.2⟩
theorem rk3 {G : GG} {F L : Nat} (h : gR G = rmx F L) (hb : (Nat.ble 1 F && Nat.ble (8 + (nativeFrameWords "java/lang/System" "arraycopy" 5 + 11)) L) = true) : 1 ≤ (gR G).frames ∧ 8 + (nativeFrameWords "java/lang/System" "arraycopy" 5 + 11) ≤ (gR G).locals := by
  rw [h]
  have h2 := Bool.and_eq_true_iff.mp hb
  exact ⟨Nat.le_of_ble_eq_true h2.1, Nat.le_of_ble_eq_true h2.2⟩
theorem isM_20 : isM 20 := Or.inl rfl
theorem isM_58 : isM 58 := Or.inr rfl
theorem bN0 : bN 0 = 0 := by decide
theorem bN1 : bN 1 = 1 := by decide
def gP {β : Type} (e : Nat) (f : Nat → Option β) : Option β := if isP e then f e else none
/-- the ends of a copy looked at -/
def gcp {β : Type} (sp dp n : Int32) (N : Nat) (o : Option β) : Option β := if sp < 0 ∨ dp < 0 ∨ n < 0 ∨ N < sp.toNatClampNeg + n.toNatClampNeg ∨ N < dp.toNatClampNeg + n.toNatClampNeg then none else o
section MORE
variable {S : Sh} {G : GG} {cc : ByteArray} {own : String} {β : Type} {Acc : β → Prop} {o A B : Option β} {pc : Nat} {lv : List (Nat × Value)} {st st0 : List Value} {s s' : St}
theorem jo_cases {c : Prop} {_ : Decidable c} (k1 : c → JJ S G Acc A pc lv st s) (k2 : ¬ c → JJ S G Acc B pc lv st s) : JJ S G Acc (if c then A else B) pc lv st s := by
  by_cases h : c
  · rw [if_pos h]; exact k1 h
  · rw [if_neg h]; exact k2 h
theorem jo_casesP {c : Prop} {_ : Decidable c} {a b : β} (k1 : c → JJ S G Acc (some a) pc lv st s) (k2 : ¬ c → JJ S G Acc (some b) pc lv st s) : JJ S G Acc (some (if c then a else b)) pc lv st s := by
  by_cases h : c
  · rw [if_pos h]; exact k1 h
  · rw [if_neg h]; exact k2 h
variable {y : MethodName} {bytes : ByteArray} {maxL fr lo n index k c N : Nat} {ret : Option FieldType} {av : (Nat → Nat) → List Value} {As : List Value} {T : u_T} {ty : Nat → FieldType} {R : String}
theorem jr_callVI (C : Cx S G cc own) {v : Int32} (F : FX c y.cls T N ty) (L : LkV own index y bytes maxL ret n) (hk : k < S.1) (ht : S.2.1 k = c) (hR : fr + 1 ≤ (gR G).frames ∧ 8 + (maxL + 11) + lo ≤ (gR G).locals) (hM : CT S (gl G) y bytes maxL ret fr lo av s s' (fun _ => some (.int v))) (hav : av (ad G) = .ref (ad G k) :: As) (hn : As.length = n) (hst : st0 = As.reverse ++ .ref (ad G k) :: st) (hrm : (st.map fun v => v.category).sum ≤ 8) (d : decode cc pc = .ok (.invokevirtual index, 3)) (kk : JJ S G Acc o (pc + 3) lv (.int v :: st) s') : JJ S G Acc o pc lv st0 s := jr_callV C F L hk ht hR hM hav hn hst hrm d kk
theorem jr_callVJ (C : Cx S G cc own) {v : Int64} (F : FX c y.cls T N ty) (L : LkV own index y bytes maxL ret n) (hk : k < S.1) (ht : S.2.1 k = c) (hR : fr + 1 ≤ (gR G).frames ∧ 8 + (maxL + 11) + lo ≤ (gR G).locals) (hM : CT S (gl G) y bytes maxL ret fr lo av s s' (fun _ => some (.long v))) (hav : av (ad G) = .ref (ad G k) :: As) (hn : As.length = n) (hst : st0 = As.reverse ++ .ref (ad G k) :: st) (hrm : (st.map fun v => v.category).sum ≤ 8) (d : decode cc pc = .ok (.invokevirtual index, 3)) (kk : JJ S G Acc o (pc + 3) lv (.long v :: st) s') : JJ S G Acc o pc lv st0 s := jr_callV C F L hk ht hR hM hav hn hst hrm d kk
theorem jr_callVV (C : Cx S G cc own) (F : FX c y.cls T N ty) (L : LkV own index y bytes maxL ret n) (hk : k < S.1) (ht : S.2.1 k = c) (hR : fr + 1 ≤ (gR G).frames ∧ 8 + (maxL + 11) + lo ≤ (gR G).locals) (hM : CT S (gl G) y bytes maxL ret fr lo av s s' (fun _ => none)) (hav : av (ad G) = .ref (ad G k) :: As) (hn : As.length = n) (hst : st0 = As.reverse ++ .ref (ad G k) :: st) (hrm : (st.map fun v => v.category).sum ≤ 8) (d : decode cc pc = .ok (.invokevirtual index, 3)) (kk : JJ S G Acc o (pc + 3) lv st s') : JJ S G Acc o pc lv st0 s := jr_callV C F L hk ht hR hM hav hn hst hrm d kk
theorem jr_callVA (C : Cx S G cc own) {v : Nat} (F : FX c y.cls T N ty) (L : LkV own index y bytes maxL ret n) (hk : k < S.1) (ht : S.2.1 k = c) (hR : fr + 1 ≤ (gR G).frames ∧ 8 + (maxL + 11) + lo ≤ (gR G).locals) (hM : CT S (gl G) y bytes maxL ret fr lo av s s' (fun a => some (.ref (a v)))) (hav : av (ad G) = .ref (ad G k) :: As) (hn : As.length = n) (hst : st0 = As.reverse ++ .ref (ad G k) :: st) (hrm : (st.map fun v => v.category).sum ≤ 8) (d : decode cc pc = .ok (.invokevirtual index, 3)) (kk : JJ S G Acc o (pc + 3) lv (.ref (ad G v) :: st) s') : JJ S G Acc o pc lv st0 s := jr_callV C F L hk ht hR hM hav hn hst hrm d kk
theorem jr_callSI (C : Cx S G cc own) {v : Int32} (L : LkS own index y bytes maxL ret n) (hR : fr + 1 ≤ (gR G).frames ∧ 8 + (maxL + 11) + lo ≤ (gR G).locals) (hM : CT S (gl G) y bytes maxL ret fr lo av s s' (fun _ => some (.int v))) (hav : av (ad G) = As) (hn : As.length = n) (hst : st0 = As.reverse ++ st) (hrm : (st.map fun v => v.category).sum ≤ 8) (d : decode cc pc = .ok (.invokestatic index, 3)) (kk : JJ S G Acc o (pc + 3) lv (.int v :: st) s') : JJ S G Acc o pc lv st0 s := jr_callS C L hR hM hav hn hst hrm d kk
theorem jr_callSJ (C : Cx S G cc own) {v : Int64} (L : LkS own index y bytes maxL ret n) (hR : fr + 1 ≤ (gR G).frames ∧ 8 + (maxL + 11) + lo ≤ (gR G).locals) (hM : CT S (gl G) y bytes maxL ret fr lo av s s' (fun _ => some (.long v))) (hav : av (ad G) = As) (hn : As.length = n) (hst : st0 = As.reverse ++ st) (hrm : (st.map fun v => v.category).sum ≤ 8) (d : decode cc pc = .ok (.invokestatic index, 3)) (kk : JJ S G Acc o (pc + 3) lv (.long v :: st) s') : JJ S G Acc o pc lv st0 s := jr_callS C L hR hM hav hn hst hrm d kk
theorem jr_callSA (C : Cx S G cc own) {v : Nat} (L : LkS own index y bytes maxL ret n) (hR : fr + 1 ≤ (gR G).frames ∧ 8 + (maxL + 11) + lo ≤ (gR G).locals) (hM : CT S (gl G) y bytes maxL ret fr lo av s s' (fun a => some (.ref (a v)))) (hav : av (ad G) = As) (hn : As.length = n) (hst : st0 = As.reverse ++ st) (hrm : (st.map fun v => v.category).sum ≤ 8) (d : decode cc pc = .ok (.invokestatic index, 3)) (kk : JJ S G Acc o (pc + 3) lv (.ref (ad G v) :: st) s') : JJ S G Acc o pc lv st0 s := jr_callS C L hR hM hav hn hst hrm d kk
theorem jr_getP {f : Nat → Option β} {e : Nat} (C : Cx S G cc own) (F : FX c R T N ty) (j : Nat) (hk : k < S.1) (ht : S.2.1 k = c) (hj : j < N) (hf : fT c j = 2) (hr : isP e → rv S s k j = some e) (hl : Cond.fieldLink own index (T j).1 (T j).2.1 (T j).2.2.1 ∈ big) (d : decode cc pc = .ok (.getfield index, 3)) (kk : ∀ p, isP p → JJ S G Acc (f p) (pc + 3) lv (.ref (ad G p) :: st) s) : JJ S G Acc (gP e f) pc lv (.ref (ad G k) :: st) s :=
  jo_if (fun hp => jr_getR C F j hk ht hj hf (hr hp) hl d (kk e hp))
theorem jr_getT {q : Nat} (C : Cx SC G cc own) (F : FX c R T N ty) (j : Nat) (hk : k < SC.1) (ht : SC.2.1 k = c) (hj : j < N) (hf : fT c j = 2) (hq : SC.2.2.2.1 k j = some (.inr q)) (hl : Cond.fieldLink own index (T j).1 (T j).2.1 (T j).2.2.1 ∈ big) (d : decode cc pc = .ok (.getfield index, 3)) (kk : JJ SC G Acc o (pc + 3) lv (.ref (ad G 1) :: st) s) : JJ SC G Acc (if s.2.2 q = 1 then o else none) pc lv (.ref (ad G k) :: st) s :=
  jo_if (fun hp => jr_getR C F j hk ht hj hf (by rw [rX_p hq (by rw [hp]; decide), hp]) hl d kk)
theorem jr_min (C : Cx S G cc own) {x y : Int32} (L : LkN own index Lib.Math.min.name Lib.Math.min.code "java/lang/Math") (hR : 1 ≤ (gR G).frames ∧ 21 ≤ (gR G).locals) (hrm : (st.map fun v => v.category).sum ≤ 8) (d : decode cc pc = .ok (.invokestatic index, 3)) (kk : JJ S G Acc o (pc + 3) lv (.int (if y < x then y else x) :: st) s) : JJ S G Acc o pc lv (.int y :: .int x :: st) s := fun ho H locs ls hP hS hl =>
  va_mmin C.1 C.2.1 (by rw [C.2.2.1]; exact hl.1.symm) C.2.2.2.1 (C.2.2.2.2.1 _ L.1) (C.2.2.2.2.1 _ L.2.1) (C.2.2.2.2.1 _ L.2.2.1) (C.2.2.2.2.1 _ L.2.2.2) hR.1 (Nat.le_trans (Nat.add_le_add_right hrm 13) hR.2) C.2.2.2.2.2.2.2.1.2.1 C.2.2.2.2.2.2.2.1.2.2 d (kk ho H locs ls hP hS hl)
theorem jr_max (C : Cx S G cc own) {x y : Int32} (L : LkN own index Lib.Math.max.name Lib.Math.max.code "java/lang/Math") (hR : 1 ≤ (gR G).frames ∧ 21 ≤ (gR G).locals) (hrm : (st.map fun v => v.category).sum ≤ 8) (d : decode cc pc = .ok (.invokestatic index, 3)) (kk : JJ S G Acc o (pc + 3) lv (.int (if x < y then y else x) :: st) s) : JJ S G Acc o pc lv (.int y :: .int x :: st) s := fun ho H locs ls hP hS hl =>
  va_mmax C.1 C.2.1 (by rw [C.2.2.1]; exact hl.1.symm) C.2.2.2.1 (C.2.2.2.2.1 _ L.1) (C.2.2.2.2.1 _ L.2.1) (C.2.2.2.2.1 _ L.2.2.1) (C.2.2.2.2.1 _ L.2.2.2) hR.1 (Nat.le_trans (Nat.add_le_add_right hrm 13) hR.2) C.2.2.2.2.2.2.2.1.2.1 C.2.2.2.2.2.2.2.1.2.2 d (kk ho H locs ls hP hS hl)
theorem jr_copy (C : Cx S G cc own) {sp dp m : Int32} (hk : k < S.1) (ht : S.2.1 k = 100) (hn : S.2.2.1 k = n) (L : LkC own index) (hR : 1 ≤ (gR G).frames ∧ 8 + (nativeFrameWords "java/lang/System" "arraycopy" 5 + 11) ≤ (gR G).locals) (hrm : (st.map fun v => v.category).sum ≤ 8) (d : decode cc pc = .ok (.invokestatic index, 3)) (kk : JJ S G Acc o (pc + 3) lv st (uC s k (va_cpy (s.1 k) (s.1 k) sp.toNatClampNeg dp.toNatClampNeg m.toNatClampNeg))) : JJ S G Acc (gcp sp dp m n o) pc lv (.int m :: .int dp :: .ref (ad G k) :: .int sp :: .ref (ad G k) :: st) s := by
  unfold gcp
  refine jo_ifn (fun h ho H locs ls hP hS hl => ?_)
  have h1 : ¬ sp < 0 := fun z => h (Or.inl z)
  have h2 : ¬ dp < 0 := fun z => h (Or.inr (Or.inl z))
  have h3 : ¬ m < 0 := fun z => h (Or.inr (Or.inr (Or.inl z)))
  have h4 : sp.toNatClampNeg + m.toNatClampNeg ≤ n := Nat.not_lt.mp (fun z => h (Or.inr (Or.inr (Or.inr (Or.inl z)))))
  have h5 : dp.toNatClampNeg + m.toNatClampNeg ≤ n := Nat.not_lt.mp (fun z => h (Or.inr (Or.inr (Or.inr (Or.inr z)))))
  refine va_copyi (ty := .int) C.1 C.2.1 (by rw [C.2.2.1]; exact hl.1.symm) C.2.2.2.1 (C.2.2.2.2.1 _ L.1) (C.2.2.2.2.1 _ L.2.1) (C.2.2.2.2.1 _ L.2.2.1) (C.2.2.2.2.1 _ L.2.2.2) C.2.2.2.2.2.1 hP (C.2.2.2.2.2.2.1 s) hS k k 0 0 (by rw [wd_get hk, ce_arr ht (Or.inl rfl) hn]) (by rw [wd_get hk, ce_arr ht (Or.inl rfl) hn]) rfl rfl rfl h1 h2 h3 h4 h5 (fun _ _ => rfl) hR.1 (Nat.le_trans (Nat.add_le_add_right hrm _) hR.2) d (fun H1 locs1 hP1 _ hS1 => ?_)
  rw [wd_st hk ht (Or.inl rfl) hn] at hP1
  exact kk ho H1 locs1 ls hP1 hS1 hl
end MORE
/-! texts -/
abbrev isT (t : Nat) : Prop := 200 ≤ t ∧ t < 211
def tn (t : Nat) : Nat := leS.getD (t - 200) 0
def tl (t : Nat) : Int32 := nI (tn t)
def tc (t : Nat) (i : Int32) : Int32 := (byS.getD (t - 200) []).getD i.toNatClampNeg 0 &&& 255
def vp_inb (i : Int32) (n : Nat) : Bool := decide (¬ (i < 0 ∨ n ≤ i.toNatClampNeg))
theorem jr_ldcT {G : GG} {cc : ByteArray} {own tx : String} {β : Type} {Acc : β → Prop} {o : Option β} {pc index : Nat} {lv : List (Nat × Value)} {st : List Value} {s : St} (C : Cx SC G cc own) (i : Nat) (h1 : txS.getD i ("", 0, "") = (own, index, tx)) (_h2 : tx = tx) (hi : i < 11) (d : decode cc pc = .ok (.ldc index, 2)) (k : JJ SC G Acc o (pc + 2) lv (.ref (ad G (200 + i)) :: st) s) : JJ SC G Acc o pc lv st s := fun ho H locs ls hP hS hl => by
  have hX : strX (ad G) (gA G) (gs G) := C.2.2.2.2.2.2.2.2.2
  have hR := hX.2.1 i hi
  rw [h1] at hR
  exact va_ldcS C.1 C.2.1 C.2.2.2.1 hR d (k ho H locs ls hP hS hl)
