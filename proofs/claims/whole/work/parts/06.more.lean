/-! ===== further rows ===== -/
theorem ltL {G : GG} {n i : Nat} (h : gL G = n) (hb : Nat.blt i n = true) : i < gL G := by rw [h]; exact Nat.lt_of_lt_of_le (Nat.lt_succ_self i) (Nat.le_of_ble_eq_true hb)
theorem ltL2 {G : GG} {n i : Nat} (h : gL G = n) (hb : Nat.blt (i + 1) n = true) : i + 1 < gL G := ltL h hb
theorem rk {G : GG} {F L fr lo maxL : Nat} (h : gR G = rmx F L) (hb : (Nat.ble (fr + 1) F && Nat.ble (8 + (maxL + 11) + lo) L) = true) : fr + 1 ≤ (gR G).frames ∧ 8 + (maxL + 11) + lo ≤ (gR G).locals := by
  rw [h]
  have h2 := Bool.and_eq_true_iff.mp hb
  exact ⟨Nat.le_of_ble_eq_true h2.1, Nat.le_of_ble_eq_true h2.2⟩
theorem rk2 {G : GG} {F L : Nat} (h : gR G = rmx F L) (hb : (Nat.ble 1 F && Nat.ble 21 L) = true) : 1 ≤ (gR G).frames ∧ 21 ≤ (gR G).locals := by
  rw [h]
  have h2 := Bool.and_eq_true_iff.mp hb
  exact ⟨Nat.le_of_ble_eq_true h2.1, Nat.le_of_ble_eq_true h2.2⟩
theorem rk3 {G : GG} {F L : Nat} (h : gR G = rmx F L) (hb : (Nat.ble 1 F && Nat.ble (8 + (nativeFrameWords "java/lang/System" "arraycopy" 5 + 11)) L) = true) : 1 ≤ (gR G).frames ∧ 8 + (nativeFrameWords "java/lang/System" "arraycopy" 5 + 11) ≤ (gR G).locals := by
  rw [h]
  have h2 := Bool.and_eq_true_iff.mp hb
  exact ⟨Nat.le_of_ble_eq_true h2.1, Nat.le_of_ble_eq_true h2.2⟩
theorem isM_20 : isM 20 := Or.inl rfl
theorem isM_58 : isM 58 := Or.inr rfl
theorem bN0 : bN 0 = 0 := by decide
theorem bN1 : bN 1 = 1 := by decide
def gP {β : Type} (e : Nat) (f : Nat → Option β) : Option β := if isP e then f e else none
/-- the ends of a copy looked at -/
def gcp {β : Type} (sp dp n : Int32) (N : Nat) (o : Option β) : Option β := if sp < 0 ∨ dp < 0 ∨ n < 0 ∨ N < sp.toNatClampNeg + n.toNatClampNeg ∨ N < dp.toNatClampNeg + n.toNatClampNeg then none else o
def LkN (own : String) (index : Nat) (y : MethodName) (bytes : ByteArray) (c0 : String) : Prop := Cond.methodLink own index y ∈ big ∧ Cond.static y ∈ big ∧ Cond.initialized c0 ∈ big ∧ Cond.code y bytes 2 (some .int) ∈ big
def LkC (own : String) (index : Nat) : Prop := Cond.methodLink own index arraycopyName ∈ big ∧ Cond.native arraycopyName ∈ big ∧ Cond.static arraycopyName ∈ big ∧ Cond.initialized "java/lang/System" ∈ big
section MORE
variable {S : Sh} {G : GG} {cc : ByteArray} {own : String} {β : Type} {Acc : β → Prop} {o A B : Option β} {pc : Nat} {lv : List (Nat × Value)} {st st0 : List Value} {s s' : St}
theorem jo_cases {c : Prop} {_ : Decidable c} (k1 : c → JJ S G Acc A pc lv st s) (k2 : ¬ c → JJ S G Acc B pc lv st s) : JJ S G Acc (if c then A else B) pc lv st s := by
  by_cases h : c
  · rw [if_pos h]; exact k1 h
  · rw [if_neg h]; exact k2 h
theorem jo_casesP {c : Prop} {_ : Decidable c} {a b : β} (k1 : c → JJ S G Acc (some a) pc lv st s) (k2 : ¬ c → JJ S G Acc (some b) pc lv st s) : JJ S G Acc (some (if c then a else b)) pc lv st s := by
  by_cases h : c
  · rw [if_pos h]; exact k1 h
  · rw [if_neg h]; exact k2 h
variable {y : MethodName} {bytes : ByteArray} {maxL fr lo n index k c N : Nat} {ret : Option FieldType} {av : (Nat → Nat) → List Value} {As : List Value} {T : u_T} {ty : Nat → FieldType} {R : String}
theorem jr_callVI (C : Cx S G cc own) {v : Int32} (F : FX c y.cls T N ty) (L : LkV own index y bytes maxL ret n) (hk : k < S.1) (ht : S.2.1 k = c) (hR : fr + 1 ≤ (gR G).frames ∧ 8 + (maxL + 11) + lo ≤ (gR G).locals) (hM : CT S (gl G) y bytes maxL ret fr lo av s s' (fun _ => some (.int v))) (hav : av (ad G) = .ref (ad G k) :: As) (hn : As.length = n) (hst : st0 = As.reverse ++ .ref (ad G k) :: st) (hrm : (st.map fun v => v.category).sum ≤ 8) (d : decode cc pc = .ok (.invokevirtual index, 3)) (kk : JJ S G Acc o (pc + 3) lv (.int v :: st) s') : JJ S G Acc o pc lv st0 s := jr_callV C F L hk ht hR hM hav hn hst hrm d kk
theorem jr_callVJ (C : Cx S G cc own) {v : Int64} (F : FX c y.cls T N ty) (L : LkV own index y bytes maxL ret n) (hk : k < S.1) (ht : S.2.1 k = c) (hR : fr + 1 ≤ (gR G).frames ∧ 8 + (maxL + 11) + lo ≤ (gR G).locals) (hM : CT S (gl G) y bytes maxL ret fr lo av s s' (fun _ => some (.long v))) (hav : av (ad G) = .ref (ad G k) :: As) (hn : As.length = n) (hst : st0 = As.reverse ++ .ref (ad G k) :: st) (hrm : (st.map fun v => v.category).sum ≤ 8) (d : decode cc pc = .ok (.invokevirtual index, 3)) (kk : JJ S G Acc o (pc + 3) lv (.long v :: st) s') : JJ S G Acc o pc lv st0 s := jr_callV C F L hk ht hR hM hav hn hst hrm d kk
theorem jr_callVV (C : Cx S G cc own) (F : FX c y.cls T N ty) (L : LkV own index y bytes maxL ret n) (hk : k < S.1) (ht : S.2.1 k = c) (hR : fr + 1 ≤ (gR G).frames ∧ 8 + (maxL + 11) + lo ≤ (gR G).locals) (hM : CT S (gl G) y bytes maxL ret fr lo av s s' (fun _ => none)) (hav : av (ad G) = .ref (ad G k) :: As) (hn : As.length = n) (hst : st0 = As.reverse ++ .ref (ad G k) :: st) (hrm : (st.map fun v => v.category).sum ≤ 8) (d : decode cc pc = .ok (.invokevirtual index, 3)) (kk : JJ S G Acc o (pc + 3) lv st s') : JJ S G Acc o pc lv st0 s := jr_callV C F L hk ht hR hM hav hn hst hrm d kk
theorem jr_callVA (C : Cx S G cc own) {v : Nat} (F : FX c y.cls T N ty) (L : LkV own index y bytes maxL ret n) (hk : k < S.1) (ht : S.2.1 k = c) (hR : fr + 1 ≤ (gR G).frames ∧ 8 + (maxL + 11) + lo ≤ (gR G).locals) (hM : CT S (gl G) y bytes maxL ret fr lo av s s' (fun a => some (.ref (a v)))) (hav : av (ad G) = .ref (ad G k) :: As) (hn : As.length = n) (hst : st0 = As.reverse ++ .ref (ad G k) :: st) (hrm : (st.map fun v => v.category).sum ≤ 8) (d : decode cc pc = .ok (.invokevirtual index, 3)) (kk : JJ S G Acc o (pc + 3) lv (.ref (ad G v) :: st) s') : JJ S G Acc o pc lv st0 s := jr_callV C F L hk ht hR hM hav hn hst hrm d kk
theorem jr_callSI (C : Cx S G cc own) {v : Int32} (L : LkS own index y bytes maxL ret n) (hR : fr + 1 ≤ (gR G).frames ∧ 8 + (maxL + 11) + lo ≤ (gR G).locals) (hM : CT S (gl G) y bytes maxL ret fr lo av s s' (fun _ => some (.int v))) (hav : av (ad G) = As) (hn : As.length = n) (hst : st0 = As.reverse ++ st) (hrm : (st.map fun v => v.category).sum ≤ 8) (d : decode cc pc = .ok (.invokestatic index, 3)) (kk : JJ S G Acc o (pc + 3) lv (.int v :: st) s') : JJ S G Acc o pc lv st0 s := jr_callS C L hR hM hav hn hst hrm d kk
theorem jr_callSJ (C : Cx S G cc own) {v : Int64} (L : LkS own index y bytes maxL ret n) (hR : fr + 1 ≤ (gR G).frames ∧ 8 + (maxL + 11) + lo ≤ (gR G).locals) (hM : CT S (gl G) y bytes maxL ret fr lo av s s' (fun _ => some (.long v))) (hav : av (ad G) = As) (hn : As.length = n) (hst : st0 = As.reverse ++ st) (hrm : (st.map fun v => v.category).sum ≤ 8) (d : decode cc pc = .ok (.invokestatic index, 3)) (kk : JJ S G Acc o (pc + 3) lv (.long v :: st) s') : JJ S G Acc o pc lv st0 s := jr_callS C L hR hM hav hn hst hrm d kk
theorem jr_callSA (C : Cx S G cc own) {v : Nat} (L : LkS own index y bytes maxL ret n) (hR : fr + 1 ≤ (gR G).frames ∧ 8 + (maxL + 11) + lo ≤ (gR G).locals) (hM : CT S (gl G) y bytes maxL ret fr lo av s s' (fun a => some (.ref (a v)))) (hav : av (ad G) = As) (hn : As.length = n) (hst : st0 = As.reverse ++ st) (hrm : (st.map fun v => v.category).sum ≤ 8) (d : decode cc pc = .ok (.invokestatic index, 3)) (kk : JJ S G Acc o (pc + 3) lv (.ref (ad G v) :: st) s') : JJ S G Acc o pc lv st0 s := jr_callS C L hR hM hav hn hst hrm d kk
theorem jr_getP {f : Nat → Option β} {e : Nat} (C : Cx S G cc own) (F : FX c R T N ty) (j : Nat) (hk : k < S.1) (ht : S.2.1 k = c) (hj : j < N) (hf : fT c j = 2) (hr : isP e → rv S s k j = some e) (hl : Cond.fieldLink own index (T j).1 (T j).2.1 (T j).2.2.1 ∈ big) (d : decode cc pc = .ok (.getfield index, 3)) (kk : ∀ p, isP p → JJ S G Acc (f p) (pc + 3) lv (.ref (ad G p) :: st) s) : JJ S G Acc (gP e f) pc lv (.ref (ad G k) :: st) s :=
  jo_if (fun hp => jr_getR C F j hk ht hj hf (hr hp) hl d (kk e hp))
theorem jr_getT {q : Nat} (C : Cx SC G cc own) (F : FX c R T N ty) (j : Nat) (hk : k < SC.1) (ht : SC.2.1 k = c) (hj : j < N) (hf : fT c j = 2) (hq : SC.2.2.2.1 k j = some (.inr q)) (hl : Cond.fieldLink own index (T j).1 (T j).2.1 (T j).2.2.1 ∈ big) (d : decode cc pc = .ok (.getfield index, 3)) (kk : JJ SC G Acc o (pc + 3) lv (.ref (ad G 1) :: st) s) : JJ SC G Acc (if s.2.2 q = 1 then o else none) pc lv (.ref (ad G k) :: st) s :=
  jo_if (fun hp => jr_getR C F j hk ht hj hf (by rw [rX_p hq (by rw [hp]; decide), hp]) hl d kk)
theorem jr_min (C : Cx S G cc own) {x y : Int32} (L : LkN own index Lib.Math.min.name Lib.Math.min.code "java/lang/Math") (hR : 1 ≤ (gR G).frames ∧ 21 ≤ (gR G).locals) (hrm : (st.map fun v => v.category).sum ≤ 8) (d : decode cc pc = .ok (.invokestatic index, 3)) (kk : JJ S G Acc o (pc + 3) lv (.int (if y < x then y else x) :: st) s) : JJ S G Acc o pc lv (.int y :: .int x :: st) s := fun ho H locs ls hP hS hl =>
  va_mmin C.1 C.2.1 (by rw [C.2.2.1]; exact hl.1.symm) C.2.2.2.1 (C.2.2.2.2.1 _ L.1) (C.2.2.2.2.1 _ L.2.1) (C.2.2.2.2.1 _ L.2.2.1) (C.2.2.2.2.1 _ L.2.2.2) hR.1 (Nat.le_trans (Nat.add_le_add_right hrm 13) hR.2) (Nat.zero_le _) (Nat.zero_le _) d (kk ho H locs ls hP hS hl)
theorem jr_max (C : Cx S G cc own) {x y : Int32} (L : LkN own index Lib.Math.max.name Lib.Math.max.code "java/lang/Math") (hR : 1 ≤ (gR G).frames ∧ 21 ≤ (gR G).locals) (hrm : (st.map fun v => v.category).sum ≤ 8) (d : decode cc pc = .ok (.invokestatic index, 3)) (kk : JJ S G Acc o (pc + 3) lv (.int (if x < y then y else x) :: st) s) : JJ S G Acc o pc lv (.int y :: .int x :: st) s := fun ho H locs ls hP hS hl =>
  va_mmax C.1 C.2.1 (by rw [C.2.2.1]; exact hl.1.symm) C.2.2.2.1 (C.2.2.2.2.1 _ L.1) (C.2.2.2.2.1 _ L.2.1) (C.2.2.2.2.1 _ L.2.2.1) (C.2.2.2.2.1 _ L.2.2.2) hR.1 (Nat.le_trans (Nat.add_le_add_right hrm 13) hR.2) (Nat.zero_le _) (Nat.zero_le _) d (kk ho H locs ls hP hS hl)
theorem jr_copy (C : Cx S G cc own) {sp dp m : Int32} (hk : k < S.1) (ht : S.2.1 k = 100) (hn : S.2.2.1 k = n) (L : LkC own index) (hR : 1 ≤ (gR G).frames ∧ 8 + (nativeFrameWords "java/lang/System" "arraycopy" 5 + 11) ≤ (gR G).locals) (hrm : (st.map fun v => v.category).sum ≤ 8) (d : decode cc pc = .ok (.invokestatic index, 3)) (kk : JJ S G Acc o (pc + 3) lv st (uC s k (va_cpy (s.1 k) (s.1 k) sp.toNatClampNeg dp.toNatClampNeg m.toNatClampNeg))) : JJ S G Acc (gcp sp dp m n o) pc lv (.int m :: .int dp :: .ref (ad G k) :: .int sp :: .ref (ad G k) :: st) s := by
  unfold gcp
  refine jo_ifn (fun h ho H locs ls hP hS hl => ?_)
  have h1 : ¬ sp < 0 := fun z => h (Or.inl z)
  have h2 : ¬ dp < 0 := fun z => h (Or.inr (Or.inl z))
  have h3 : ¬ m < 0 := fun z => h (Or.inr (Or.inr (Or.inl z)))
  have h4 : sp.toNatClampNeg + m.toNatClampNeg ≤ n := Nat.not_lt.mp (fun z => h (Or.inr (Or.inr (Or.inr (Or.inl z)))))
  have h5 : dp.toNatClampNeg + m.toNatClampNeg ≤ n := Nat.not_lt.mp (fun z => h (Or.inr (Or.inr (Or.inr (Or.inr z)))))
  refine va_copyi (ty := .int) C.1 C.2.1 (by rw [C.2.2.1]; exact hl.1.symm) C.2.2.2.1 (C.2.2.2.2.1 _ L.1) (C.2.2.2.2.1 _ L.2.1) (C.2.2.2.2.1 _ L.2.2.1) (C.2.2.2.2.1 _ L.2.2.2) C.2.2.2.2.2.1 hP (C.2.2.2.2.2.2.1 s) hS k k 0 0 (by rw [wd_get hk, ce_arr ht (Or.inl rfl) hn]) (by rw [wd_get hk, ce_arr ht (Or.inl rfl) hn]) rfl rfl rfl h1 h2 h3 h4 h5 (fun _ _ => rfl) hR.1 (Nat.le_trans (Nat.add_le_add_right hrm _) hR.2) d (fun H1 locs1 hP1 _ hS1 => ?_)
  rw [wd_st hk ht (Or.inl rfl) hn] at hP1
  exact kk ho H1 locs1 ls hP1 hS1 hl
end MORE
/-! texts -/
abbrev isT (t : Nat) : Prop := 200 ≤ t ∧ t < 211
def tn (t : Nat) : Nat := leS.getD (t - 200) 0
def tl (t : Nat) : Int32 := nI (tn t)
def tc (t : Nat) (i : Int32) : Int32 := (byS.getD (t - 200) []).getD i.toNatClampNeg 0 &&& 255
def vp_inb (i : Int32) (n : Nat) : Bool := decide (¬ (i < 0 ∨ n ≤ i.toNatClampNeg))
theorem jr_ldcT {G : GG} {cc : ByteArray} {own tx : String} {β : Type} {Acc : β → Prop} {o : Option β} {pc index : Nat} {lv : List (Nat × Value)} {st : List Value} {s : St} (C : Cx SC G cc own) (i : Nat) (h1 : txS.getD i ("", 0, "") = (own, index, tx)) (_h2 : tx = tx) (hi : i < 11) (d : decode cc pc = .ok (.ldc index, 2)) (k : JJ SC G Acc o (pc + 2) lv (.ref (ad G (200 + i)) :: st) s) : JJ SC G Acc o pc lv st s := fun ho H locs ls hP hS hl => by
  have hX : strX (ad G) (gA G) (gs G) := C.2.2.2.2.2.2.2.2.2
  have hR := hX.2.1 i hi
  rw [h1] at hR
  exact va_ldcS C.1 C.2.1 C.2.2.2.1 hR d (k ho H locs ls hP hS hl)
theorem ic_m1 : Int32.ofInt (-1) = (-1) := by decide
theorem ic_0 : Int32.ofInt 0 = 0 := by decide
theorem ic_1 : Int32.ofInt 1 = 1 := by decide
theorem ic_2 : Int32.ofInt 2 = 2 := by decide
theorem ic_3 : Int32.ofInt 3 = 3 := by decide
theorem ic_4 : Int32.ofInt 4 = 4 := by decide
theorem ic_5 : Int32.ofInt 5 = 5 := by decide
theorem bp_m8 : (Int8.ofInt (-8)).toInt32 = (-8) := by decide
theorem bp_m4 : (Int8.ofInt (-4)).toInt32 = (-4) := by decide
theorem bp_6 : (Int8.ofInt 6).toInt32 = 6 := by decide
theorem bp_7 : (Int8.ofInt 7).toInt32 = 7 := by decide
theorem bp_8 : (Int8.ofInt 8).toInt32 = 8 := by decide
theorem bp_10 : (Int8.ofInt 10).toInt32 = 10 := by decide
theorem bp_12 : (Int8.ofInt 12).toInt32 = 12 := by decide
theorem bp_13 : (Int8.ofInt 13).toInt32 = 13 := by decide
theorem bp_15 : (Int8.ofInt 15).toInt32 = 15 := by decide
theorem bp_16 : (Int8.ofInt 16).toInt32 = 16 := by decide
theorem bp_17 : (Int8.ofInt 17).toInt32 = 17 := by decide
theorem bp_18 : (Int8.ofInt 18).toInt32 = 18 := by decide
theorem bp_19 : (Int8.ofInt 19).toInt32 = 19 := by decide
theorem bp_20 : (Int8.ofInt 20).toInt32 = 20 := by decide
theorem bp_21 : (Int8.ofInt 21).toInt32 = 21 := by decide
theorem bp_22 : (Int8.ofInt 22).toInt32 = 22 := by decide
theorem bp_23 : (Int8.ofInt 23).toInt32 = 23 := by decide
theorem bp_24 : (Int8.ofInt 24).toInt32 = 24 := by decide
theorem bp_25 : (Int8.ofInt 25).toInt32 = 25 := by decide
theorem bp_26 : (Int8.ofInt 26).toInt32 = 26 := by decide
theorem bp_27 : (Int8.ofInt 27).toInt32 = 27 := by decide
theorem bp_28 : (Int8.ofInt 28).toInt32 = 28 := by decide
theorem bp_29 : (Int8.ofInt 29).toInt32 = 29 := by decide
theorem bp_30 : (Int8.ofInt 30).toInt32 = 30 := by decide
theorem bp_31 : (Int8.ofInt 31).toInt32 = 31 := by decide
theorem bp_32 : (Int8.ofInt 32).toInt32 = 32 := by decide
theorem bp_33 : (Int8.ofInt 33).toInt32 = 33 := by decide
theorem bp_34 : (Int8.ofInt 34).toInt32 = 34 := by decide
theorem bp_35 : (Int8.ofInt 35).toInt32 = 35 := by decide
theorem bp_37 : (Int8.ofInt 37).toInt32 = 37 := by decide
theorem bp_38 : (Int8.ofInt 38).toInt32 = 38 := by decide
theorem bp_39 : (Int8.ofInt 39).toInt32 = 39 := by decide
theorem bp_40 : (Int8.ofInt 40).toInt32 = 40 := by decide
theorem bp_41 : (Int8.ofInt 41).toInt32 = 41 := by decide
theorem bp_42 : (Int8.ofInt 42).toInt32 = 42 := by decide
theorem bp_44 : (Int8.ofInt 44).toInt32 = 44 := by decide
theorem bp_45 : (Int8.ofInt 45).toInt32 = 45 := by decide
theorem bp_47 : (Int8.ofInt 47).toInt32 = 47 := by decide
theorem bp_48 : (Int8.ofInt 48).toInt32 = 48 := by decide
theorem bp_49 : (Int8.ofInt 49).toInt32 = 49 := by decide
theorem bp_51 : (Int8.ofInt 51).toInt32 = 51 := by decide
theorem bp_55 : (Int8.ofInt 55).toInt32 = 55 := by decide
theorem bp_57 : (Int8.ofInt 57).toInt32 = 57 := by decide
theorem bp_58 : (Int8.ofInt 58).toInt32 = 58 := by decide
theorem bp_59 : (Int8.ofInt 59).toInt32 = 59 := by decide
theorem bp_60 : (Int8.ofInt 60).toInt32 = 60 := by decide
theorem bp_65 : (Int8.ofInt 65).toInt32 = 65 := by decide
theorem bp_76 : (Int8.ofInt 76).toInt32 = 76 := by decide
theorem bp_78 : (Int8.ofInt 78).toInt32 = 78 := by decide
theorem bp_82 : (Int8.ofInt 82).toInt32 = 82 := by decide
theorem bp_87 : (Int8.ofInt 87).toInt32 = 87 := by decide
theorem bp_88 : (Int8.ofInt 88).toInt32 = 88 := by decide
theorem bp_90 : (Int8.ofInt 90).toInt32 = 90 := by decide
theorem bp_97 : (Int8.ofInt 97).toInt32 = 97 := by decide
theorem bp_100 : (Int8.ofInt 100).toInt32 = 100 := by decide
theorem bp_101 : (Int8.ofInt 101).toInt32 = 101 := by decide
theorem bp_102 : (Int8.ofInt 102).toInt32 = 102 := by decide
theorem bp_114 : (Int8.ofInt 114).toInt32 = 114 := by decide
theorem bp_120 : (Int8.ofInt 120).toInt32 = 120 := by decide
theorem bp_122 : (Int8.ofInt 122).toInt32 = 122 := by decide
theorem sp_200 : (Int16.ofInt 200).toInt32 = 200 := by decide
theorem sp_201 : (Int16.ofInt 201).toInt32 = 201 := by decide
theorem sp_255 : (Int16.ofInt 255).toInt32 = 255 := by decide
theorem sp_256 : (Int16.ofInt 256).toInt32 = 256 := by decide
theorem sp_274 : (Int16.ofInt 274).toInt32 = 274 := by decide
theorem sp_275 : (Int16.ofInt 275).toInt32 = 275 := by decide
theorem sp_306 : (Int16.ofInt 306).toInt32 = 306 := by decide
theorem sp_308 : (Int16.ofInt 308).toInt32 = 308 := by decide
theorem sp_511 : (Int16.ofInt 511).toInt32 = 511 := by decide
theorem sp_512 : (Int16.ofInt 512).toInt32 = 512 := by decide
theorem sp_600 : (Int16.ofInt 600).toInt32 = 600 := by decide
theorem sp_1024 : (Int16.ofInt 1024).toInt32 = 1024 := by decide
theorem sp_1032 : (Int16.ofInt 1032).toInt32 = 1032 := by decide
theorem sp_3000 : (Int16.ofInt 3000).toInt32 = 3000 := by decide
theorem sp_3072 : (Int16.ofInt 3072).toInt32 = 3072 := by decide
theorem sp_4000 : (Int16.ofInt 4000).toInt32 = 4000 := by decide
theorem sp_4096 : (Int16.ofInt 4096).toInt32 = 4096 := by decide
theorem sp_20000 : (Int16.ofInt 20000).toInt32 = 20000 := by decide
theorem ii_m8 {x : Int32} : x + Int32.ofInt (-8) = x + (-8) := congrArg (fun z => x + z) (show Int32.ofInt (-8) = (-8) by decide)
theorem ii_m1 {x : Int32} : x + Int32.ofInt (-1) = x + (-1) := congrArg (fun z => x + z) (show Int32.ofInt (-1) = (-1) by decide)
theorem ii_1 {x : Int32} : x + Int32.ofInt 1 = x + 1 := congrArg (fun z => x + z) (show Int32.ofInt 1 = 1 by decide)
theorem ii_4 {x : Int32} : x + Int32.ofInt 4 = x + 4 := congrArg (fun z => x + z) (show Int32.ofInt 4 = 4 by decide)
theorem ii_8 {x : Int32} : x + Int32.ofInt 8 = x + 8 := congrArg (fun z => x + z) (show Int32.ofInt 8 = 8 by decide)
theorem ff_0_0 : 0 < 13 ∧ fT 0 0 = 2 := ⟨by decide, rfl⟩
theorem ff_0_1 : 1 < 13 ∧ fT 0 1 = 2 := ⟨by decide, rfl⟩
theorem ff_0_2 : 2 < 13 ∧ fT 0 2 = 2 := ⟨by decide, rfl⟩
theorem ff_0_3 : 3 < 13 ∧ fT 0 3 = 2 := ⟨by decide, rfl⟩
theorem ff_0_4 : 4 < 13 ∧ fT 0 4 = 0 := ⟨by decide, rfl⟩
theorem ff_0_5 : 5 < 13 ∧ fT 0 5 = 2 := ⟨by decide, rfl⟩
theorem ff_0_6 : 6 < 13 ∧ fT 0 6 = 2 := ⟨by decide, rfl⟩
theorem ff_0_7 : 7 < 13 ∧ fT 0 7 = 2 := ⟨by decide, rfl⟩
theorem ff_0_8 : 8 < 13 ∧ fT 0 8 = 0 := ⟨by decide, rfl⟩
theorem ff_0_9 : 9 < 13 ∧ fT 0 9 = 2 := ⟨by decide, rfl⟩
theorem ff_0_10 : 10 < 13 ∧ fT 0 10 = 0 := ⟨by decide, rfl⟩
theorem ff_0_11 : 11 < 13 ∧ fT 0 11 = 0 := ⟨by decide, rfl⟩
theorem ff_0_12 : 12 < 13 ∧ fT 0 12 = 0 := ⟨by decide, rfl⟩
theorem ff_1_0 : 0 < 3 ∧ fT 1 0 = 0 := ⟨by decide, rfl⟩
theorem ff_1_1 : 1 < 3 ∧ fT 1 1 = 0 := ⟨by decide, rfl⟩
theorem ff_1_2 : 2 < 3 ∧ fT 1 2 = 0 := ⟨by decide, rfl⟩
theorem ff_2_0 : 0 < 11 ∧ fT 2 0 = 2 := ⟨by decide, rfl⟩
theorem ff_2_1 : 1 < 11 ∧ fT 2 1 = 2 := ⟨by decide, rfl⟩
theorem ff_2_2 : 2 < 11 ∧ fT 2 2 = 2 := ⟨by decide, rfl⟩
theorem ff_2_3 : 3 < 11 ∧ fT 2 3 = 2 := ⟨by decide, rfl⟩
theorem ff_2_4 : 4 < 11 ∧ fT 2 4 = 2 := ⟨by decide, rfl⟩
theorem ff_2_5 : 5 < 11 ∧ fT 2 5 = 0 := ⟨by decide, rfl⟩
theorem ff_2_6 : 6 < 11 ∧ fT 2 6 = 2 := ⟨by decide, rfl⟩
theorem ff_2_7 : 7 < 11 ∧ fT 2 7 = 2 := ⟨by decide, rfl⟩
theorem ff_2_8 : 8 < 11 ∧ fT 2 8 = 0 := ⟨by decide, rfl⟩
theorem ff_2_9 : 9 < 11 ∧ fT 2 9 = 0 := ⟨by decide, rfl⟩
theorem ff_2_10 : 10 < 11 ∧ fT 2 10 = 0 := ⟨by decide, rfl⟩
theorem ff_3_0 : 0 < 3 ∧ fT 3 0 = 2 := ⟨by decide, rfl⟩
theorem ff_3_1 : 1 < 3 ∧ fT 3 1 = 2 := ⟨by decide, rfl⟩
theorem ff_3_2 : 2 < 3 ∧ fT 3 2 = 0 := ⟨by decide, rfl⟩
theorem ff_4_0 : 0 < 11 ∧ fT 4 0 = 2 := ⟨by decide, rfl⟩
theorem ff_4_1 : 1 < 11 ∧ fT 4 1 = 2 := ⟨by decide, rfl⟩
theorem ff_4_2 : 2 < 11 ∧ fT 4 2 = 2 := ⟨by decide, rfl⟩
theorem ff_4_3 : 3 < 11 ∧ fT 4 3 = 2 := ⟨by decide, rfl⟩
theorem ff_4_4 : 4 < 11 ∧ fT 4 4 = 0 := ⟨by decide, rfl⟩
theorem ff_4_5 : 5 < 11 ∧ fT 4 5 = 0 := ⟨by decide, rfl⟩
theorem ff_4_6 : 6 < 11 ∧ fT 4 6 = 0 := ⟨by decide, rfl⟩
theorem ff_4_7 : 7 < 11 ∧ fT 4 7 = 2 := ⟨by decide, rfl⟩
theorem ff_4_8 : 8 < 11 ∧ fT 4 8 = 2 := ⟨by decide, rfl⟩
theorem ff_4_9 : 9 < 11 ∧ fT 4 9 = 2 := ⟨by decide, rfl⟩
theorem ff_4_10 : 10 < 11 ∧ fT 4 10 = 0 := ⟨by decide, rfl⟩
theorem ff_5_0 : 0 < 19 ∧ fT 5 0 = 2 := ⟨by decide, rfl⟩
theorem ff_5_1 : 1 < 19 ∧ fT 5 1 = 2 := ⟨by decide, rfl⟩
theorem ff_5_2 : 2 < 19 ∧ fT 5 2 = 2 := ⟨by decide, rfl⟩
theorem ff_5_3 : 3 < 19 ∧ fT 5 3 = 2 := ⟨by decide, rfl⟩
theorem ff_5_4 : 4 < 19 ∧ fT 5 4 = 2 := ⟨by decide, rfl⟩
theorem ff_5_5 : 5 < 19 ∧ fT 5 5 = 2 := ⟨by decide, rfl⟩
theorem ff_5_6 : 6 < 19 ∧ fT 5 6 = 2 := ⟨by decide, rfl⟩
theorem ff_5_7 : 7 < 19 ∧ fT 5 7 = 2 := ⟨by decide, rfl⟩
theorem ff_5_8 : 8 < 19 ∧ fT 5 8 = 0 := ⟨by decide, rfl⟩
theorem ff_5_9 : 9 < 19 ∧ fT 5 9 = 0 := ⟨by decide, rfl⟩
theorem ff_5_10 : 10 < 19 ∧ fT 5 10 = 0 := ⟨by decide, rfl⟩
theorem ff_5_11 : 11 < 19 ∧ fT 5 11 = 0 := ⟨by decide, rfl⟩
theorem ff_5_12 : 12 < 19 ∧ fT 5 12 = 0 := ⟨by decide, rfl⟩
theorem ff_5_13 : 13 < 19 ∧ fT 5 13 = 0 := ⟨by decide, rfl⟩
theorem ff_5_14 : 14 < 19 ∧ fT 5 14 = 0 := ⟨by decide, rfl⟩
theorem ff_5_15 : 15 < 19 ∧ fT 5 15 = 2 := ⟨by decide, rfl⟩
theorem ff_5_16 : 16 < 19 ∧ fT 5 16 = 0 := ⟨by decide, rfl⟩
theorem ff_5_17 : 17 < 19 ∧ fT 5 17 = 2 := ⟨by decide, rfl⟩
theorem ff_5_18 : 18 < 19 ∧ fT 5 18 = 0 := ⟨by decide, rfl⟩
theorem ff_6_0 : 0 < 6 ∧ fT 6 0 = 2 := ⟨by decide, rfl⟩
theorem ff_6_1 : 1 < 6 ∧ fT 6 1 = 2 := ⟨by decide, rfl⟩
theorem ff_6_2 : 2 < 6 ∧ fT 6 2 = 2 := ⟨by decide, rfl⟩
theorem ff_6_3 : 3 < 6 ∧ fT 6 3 = 2 := ⟨by decide, rfl⟩
theorem ff_6_4 : 4 < 6 ∧ fT 6 4 = 0 := ⟨by decide, rfl⟩
theorem ff_6_5 : 5 < 6 ∧ fT 6 5 = 0 := ⟨by decide, rfl⟩
theorem ff_7_0 : 0 < 6 ∧ fT 7 0 = 2 := ⟨by decide, rfl⟩
theorem ff_7_1 : 1 < 6 ∧ fT 7 1 = 2 := ⟨by decide, rfl⟩
theorem ff_7_2 : 2 < 6 ∧ fT 7 2 = 2 := ⟨by decide, rfl⟩
theorem ff_7_3 : 3 < 6 ∧ fT 7 3 = 0 := ⟨by decide, rfl⟩
theorem ff_7_4 : 4 < 6 ∧ fT 7 4 = 2 := ⟨by decide, rfl⟩
theorem ff_7_5 : 5 < 6 ∧ fT 7 5 = 0 := ⟨by decide, rfl⟩
theorem ff_8_0 : 0 < 7 ∧ fT 8 0 = 2 := ⟨by decide, rfl⟩
theorem ff_8_1 : 1 < 7 ∧ fT 8 1 = 0 := ⟨by decide, rfl⟩
theorem ff_8_2 : 2 < 7 ∧ fT 8 2 = 0 := ⟨by decide, rfl⟩
theorem ff_8_3 : 3 < 7 ∧ fT 8 3 = 0 := ⟨by decide, rfl⟩
theorem ff_8_4 : 4 < 7 ∧ fT 8 4 = 0 := ⟨by decide, rfl⟩
theorem ff_8_5 : 5 < 7 ∧ fT 8 5 = 1 := ⟨by decide, rfl⟩
theorem ff_8_6 : 6 < 7 ∧ fT 8 6 = 0 := ⟨by decide, rfl⟩
theorem ff_9_0 : 0 < 9 ∧ fT 9 0 = 2 := ⟨by decide, rfl⟩
theorem ff_9_1 : 1 < 9 ∧ fT 9 1 = 0 := ⟨by decide, rfl⟩
theorem ff_9_2 : 2 < 9 ∧ fT 9 2 = 2 := ⟨by decide, rfl⟩
theorem ff_9_3 : 3 < 9 ∧ fT 9 3 = 2 := ⟨by decide, rfl⟩
theorem ff_9_4 : 4 < 9 ∧ fT 9 4 = 2 := ⟨by decide, rfl⟩
theorem ff_9_5 : 5 < 9 ∧ fT 9 5 = 0 := ⟨by decide, rfl⟩
theorem ff_9_6 : 6 < 9 ∧ fT 9 6 = 2 := ⟨by decide, rfl⟩
theorem ff_9_7 : 7 < 9 ∧ fT 9 7 = 2 := ⟨by decide, rfl⟩
theorem ff_9_8 : 8 < 9 ∧ fT 9 8 = 0 := ⟨by decide, rfl⟩
theorem ff_10_0 : 0 < 75 ∧ fT 10 0 = 2 := ⟨by decide, rfl⟩
theorem ff_10_1 : 1 < 75 ∧ fT 10 1 = 0 := ⟨by decide, rfl⟩
theorem ff_10_2 : 2 < 75 ∧ fT 10 2 = 2 := ⟨by decide, rfl⟩
theorem ff_10_3 : 3 < 75 ∧ fT 10 3 = 0 := ⟨by decide, rfl⟩
theorem ff_10_4 : 4 < 75 ∧ fT 10 4 = 2 := ⟨by decide, rfl⟩
theorem ff_10_5 : 5 < 75 ∧ fT 10 5 = 2 := ⟨by decide, rfl⟩
theorem ff_10_6 : 6 < 75 ∧ fT 10 6 = 2 := ⟨by decide, rfl⟩
theorem ff_10_7 : 7 < 75 ∧ fT 10 7 = 2 := ⟨by decide, rfl⟩
theorem ff_10_8 : 8 < 75 ∧ fT 10 8 = 2 := ⟨by decide, rfl⟩
theorem ff_10_9 : 9 < 75 ∧ fT 10 9 = 2 := ⟨by decide, rfl⟩
theorem ff_10_10 : 10 < 75 ∧ fT 10 10 = 2 := ⟨by decide, rfl⟩
theorem ff_10_11 : 11 < 75 ∧ fT 10 11 = 2 := ⟨by decide, rfl⟩
theorem ff_10_12 : 12 < 75 ∧ fT 10 12 = 2 := ⟨by decide, rfl⟩
theorem ff_10_13 : 13 < 75 ∧ fT 10 13 = 2 := ⟨by decide, rfl⟩
theorem ff_10_14 : 14 < 75 ∧ fT 10 14 = 0 := ⟨by decide, rfl⟩
theorem ff_10_15 : 15 < 75 ∧ fT 10 15 = 0 := ⟨by decide, rfl⟩
theorem ff_10_16 : 16 < 75 ∧ fT 10 16 = 0 := ⟨by decide, rfl⟩
theorem ff_10_17 : 17 < 75 ∧ fT 10 17 = 0 := ⟨by decide, rfl⟩
theorem ff_10_18 : 18 < 75 ∧ fT 10 18 = 0 := ⟨by decide, rfl⟩
theorem ff_10_19 : 19 < 75 ∧ fT 10 19 = 0 := ⟨by decide, rfl⟩
theorem ff_10_20 : 20 < 75 ∧ fT 10 20 = 0 := ⟨by decide, rfl⟩
theorem ff_10_21 : 21 < 75 ∧ fT 10 21 = 0 := ⟨by decide, rfl⟩
theorem ff_10_22 : 22 < 75 ∧ fT 10 22 = 0 := ⟨by decide, rfl⟩
theorem ff_10_23 : 23 < 75 ∧ fT 10 23 = 0 := ⟨by decide, rfl⟩
theorem ff_10_24 : 24 < 75 ∧ fT 10 24 = 0 := ⟨by decide, rfl⟩
theorem ff_10_25 : 25 < 75 ∧ fT 10 25 = 0 := ⟨by decide, rfl⟩
theorem ff_10_26 : 26 < 75 ∧ fT 10 26 = 0 := ⟨by decide, rfl⟩
theorem ff_10_27 : 27 < 75 ∧ fT 10 27 = 0 := ⟨by decide, rfl⟩
theorem ff_10_28 : 28 < 75 ∧ fT 10 28 = 0 := ⟨by decide, rfl⟩
theorem ff_10_29 : 29 < 75 ∧ fT 10 29 = 0 := ⟨by decide, rfl⟩
theorem ff_10_30 : 30 < 75 ∧ fT 10 30 = 2 := ⟨by decide, rfl⟩
theorem ff_10_31 : 31 < 75 ∧ fT 10 31 = 2 := ⟨by decide, rfl⟩
theorem ff_10_32 : 32 < 75 ∧ fT 10 32 = 2 := ⟨by decide, rfl⟩
theorem ff_10_33 : 33 < 75 ∧ fT 10 33 = 2 := ⟨by decide, rfl⟩
theorem ff_10_34 : 34 < 75 ∧ fT 10 34 = 2 := ⟨by decide, rfl⟩
theorem ff_10_35 : 35 < 75 ∧ fT 10 35 = 2 := ⟨by decide, rfl⟩
theorem ff_10_36 : 36 < 75 ∧ fT 10 36 = 2 := ⟨by decide, rfl⟩
theorem ff_10_37 : 37 < 75 ∧ fT 10 37 = 2 := ⟨by decide, rfl⟩
theorem ff_10_38 : 38 < 75 ∧ fT 10 38 = 2 := ⟨by decide, rfl⟩
theorem ff_10_39 : 39 < 75 ∧ fT 10 39 = 2 := ⟨by decide, rfl⟩
theorem ff_10_40 : 40 < 75 ∧ fT 10 40 = 2 := ⟨by decide, rfl⟩
theorem ff_10_41 : 41 < 75 ∧ fT 10 41 = 2 := ⟨by decide, rfl⟩
theorem ff_10_42 : 42 < 75 ∧ fT 10 42 = 2 := ⟨by decide, rfl⟩
theorem ff_10_43 : 43 < 75 ∧ fT 10 43 = 2 := ⟨by decide, rfl⟩
theorem ff_10_44 : 44 < 75 ∧ fT 10 44 = 2 := ⟨by decide, rfl⟩
theorem ff_10_45 : 45 < 75 ∧ fT 10 45 = 2 := ⟨by decide, rfl⟩
theorem ff_10_46 : 46 < 75 ∧ fT 10 46 = 2 := ⟨by decide, rfl⟩
theorem ff_10_47 : 47 < 75 ∧ fT 10 47 = 2 := ⟨by decide, rfl⟩
theorem ff_10_48 : 48 < 75 ∧ fT 10 48 = 2 := ⟨by decide, rfl⟩
theorem ff_10_49 : 49 < 75 ∧ fT 10 49 = 2 := ⟨by decide, rfl⟩
theorem ff_10_50 : 50 < 75 ∧ fT 10 50 = 2 := ⟨by decide, rfl⟩
theorem ff_10_51 : 51 < 75 ∧ fT 10 51 = 2 := ⟨by decide, rfl⟩
theorem ff_10_52 : 52 < 75 ∧ fT 10 52 = 2 := ⟨by decide, rfl⟩
theorem ff_10_53 : 53 < 75 ∧ fT 10 53 = 2 := ⟨by decide, rfl⟩
theorem ff_10_54 : 54 < 75 ∧ fT 10 54 = 2 := ⟨by decide, rfl⟩
theorem ff_10_55 : 55 < 75 ∧ fT 10 55 = 0 := ⟨by decide, rfl⟩
theorem ff_10_56 : 56 < 75 ∧ fT 10 56 = 0 := ⟨by decide, rfl⟩
theorem ff_10_57 : 57 < 75 ∧ fT 10 57 = 2 := ⟨by decide, rfl⟩
theorem ff_10_58 : 58 < 75 ∧ fT 10 58 = 2 := ⟨by decide, rfl⟩
theorem ff_10_59 : 59 < 75 ∧ fT 10 59 = 2 := ⟨by decide, rfl⟩
theorem ff_10_60 : 60 < 75 ∧ fT 10 60 = 2 := ⟨by decide, rfl⟩
theorem ff_10_61 : 61 < 75 ∧ fT 10 61 = 0 := ⟨by decide, rfl⟩
theorem ff_10_62 : 62 < 75 ∧ fT 10 62 = 0 := ⟨by decide, rfl⟩
theorem ff_10_63 : 63 < 75 ∧ fT 10 63 = 0 := ⟨by decide, rfl⟩
theorem ff_10_64 : 64 < 75 ∧ fT 10 64 = 0 := ⟨by decide, rfl⟩
theorem ff_10_65 : 65 < 75 ∧ fT 10 65 = 2 := ⟨by decide, rfl⟩
theorem ff_10_66 : 66 < 75 ∧ fT 10 66 = 2 := ⟨by decide, rfl⟩
theorem ff_10_67 : 67 < 75 ∧ fT 10 67 = 2 := ⟨by decide, rfl⟩
theorem ff_10_68 : 68 < 75 ∧ fT 10 68 = 0 := ⟨by decide, rfl⟩
theorem ff_10_69 : 69 < 75 ∧ fT 10 69 = 0 := ⟨by decide, rfl⟩
theorem ff_10_70 : 70 < 75 ∧ fT 10 70 = 2 := ⟨by decide, rfl⟩
theorem ff_10_71 : 71 < 75 ∧ fT 10 71 = 2 := ⟨by decide, rfl⟩
theorem ff_10_72 : 72 < 75 ∧ fT 10 72 = 2 := ⟨by decide, rfl⟩
theorem ff_10_73 : 73 < 75 ∧ fT 10 73 = 0 := ⟨by decide, rfl⟩
theorem ff_10_74 : 74 < 75 ∧ fT 10 74 = 2 := ⟨by decide, rfl⟩
theorem fl_X11_9 : Cond.fieldLink RX11 9 (TX11 0).1 (TX11 0).2.1 (TX11 0).2.2.1 ∈ big := mem_big (List.mem_of_getElem? (i := 545) (by decide +kernel)) (by decide +kernel)
theorem fl_X11_16 : Cond.fieldLink RX11 16 (TX11 2).1 (TX11 2).2.1 (TX11 2).2.2.1 ∈ big := mem_big (List.mem_of_getElem? (i := 547) (by decide +kernel)) (by decide +kernel)
theorem fl_X11_23 : Cond.fieldLink RX11 23 (TX11 3).1 (TX11 3).2.1 (TX11 3).2.2.1 ∈ big := mem_big (List.mem_of_getElem? (i := 548) (by decide +kernel)) (by decide +kernel)
theorem fl_X11_27 : Cond.fieldLink RX11 27 (TX11 4).1 (TX11 4).2.1 (TX11 4).2.2.1 ∈ big := mem_big (List.mem_of_getElem? (i := 549) (by decide +kernel)) (by decide +kernel)
theorem fl_X11_33 : Cond.fieldLink RX11 33 (TX11 6).1 (TX11 6).2.1 (TX11 6).2.2.1 ∈ big := mem_big (List.mem_of_getElem? (i := 551) (by decide +kernel)) (by decide +kernel)
theorem fl_X11_37 : Cond.fieldLink RX11 37 (TX11 7).1 (TX11 7).2.1 (TX11 7).2.2.1 ∈ big := mem_big (List.mem_of_getElem? (i := 552) (by decide +kernel)) (by decide +kernel)
theorem fl_X11_41 : Cond.fieldLink RX11 41 (TX11 8).1 (TX11 8).2.1 (TX11 8).2.2.1 ∈ big := mem_big (List.mem_of_getElem? (i := 553) (by decide +kernel)) (by decide +kernel)
theorem fl_X11_45 : Cond.fieldLink RX11 45 (TX11 1).1 (TX11 1).2.1 (TX11 1).2.2.1 ∈ big := mem_big (List.mem_of_getElem? (i := 546) (by decide +kernel)) (by decide +kernel)
theorem fl_X11_56 : Cond.fieldLink RX11 56 (TX11 5).1 (TX11 5).2.1 (TX11 5).2.2.1 ∈ big := mem_big (List.mem_of_getElem? (i := 550) (by decide +kernel)) (by decide +kernel)
theorem fl_X11_60 : Cond.fieldLink RX11 60 (TX5 4).1 (TX5 4).2.1 (TX5 4).2.2.1 ∈ big := mem_big (List.mem_of_getElem? (i := 486) (by decide +kernel)) (by decide +kernel)
theorem fl_X11_73 : Cond.fieldLink RX11 73 (TX8 3).1 (TX8 3).2.1 (TX8 3).2.2.1 ∈ big := mem_big (List.mem_of_getElem? (i := 296) (by decide +kernel)) (by decide +kernel)
theorem fl_X11_76 : Cond.fieldLink RX11 76 (TX0 10).1 (TX0 10).2.1 (TX0 10).2.2.1 ∈ big := mem_big (List.mem_of_getElem? (i := 246) (by decide +kernel)) (by decide +kernel)
theorem fl_X11_79 : Cond.fieldLink RX11 79 (TX0 11).1 (TX0 11).2.1 (TX0 11).2.2.1 ∈ big := mem_big (List.mem_of_getElem? (i := 248) (by decide +kernel)) (by decide +kernel)
theorem fl_X11_82 : Cond.fieldLink RX11 82 (TX0 12).1 (TX0 12).2.1 (TX0 12).2.2.1 ∈ big := mem_big (List.mem_of_getElem? (i := 250) (by decide +kernel)) (by decide +kernel)
theorem fl_X11_105 : Cond.fieldLink RX11 105 (TX5 5).1 (TX5 5).2.1 (TX5 5).2.2.1 ∈ big := mem_big (List.mem_of_getElem? (i := 488) (by decide +kernel)) (by decide +kernel)
theorem fl_X11_112 : Cond.fieldLink RX11 112 (TX5 1).1 (TX5 1).2.1 (TX5 1).2.2.1 ∈ big := mem_big (List.mem_of_getElem? (i := 482) (by decide +kernel)) (by decide +kernel)
theorem fl_X11_127 : Cond.fieldLink RX11 127 (TX5 8).1 (TX5 8).2.1 (TX5 8).2.2.1 ∈ big := mem_big (List.mem_of_getElem? (i := 492) (by decide +kernel)) (by decide +kernel)
theorem fl_X11_130 : Cond.fieldLink RX11 130 (TX5 12).1 (TX5 12).2.1 (TX5 12).2.2.1 ∈ big := mem_big (List.mem_of_getElem? (i := 497) (by decide +kernel)) (by decide +kernel)
theorem fl_X11_133 : Cond.fieldLink RX11 133 (TX5 13).1 (TX5 13).2.1 (TX5 13).2.2.1 ∈ big := mem_big (List.mem_of_getElem? (i := 499) (by decide +kernel)) (by decide +kernel)
theorem fl_X0_12 : Cond.fieldLink RX0 12 (TX0 0).1 (TX0 0).2.1 (TX0 0).2.2.1 ∈ big := mem_big (List.mem_of_getElem? (i := 235) (by decide +kernel)) (by decide +kernel)
theorem fl_X0_20 : Cond.fieldLink RX0 20 (TX0 1).1 (TX0 1).2.1 (TX0 1).2.2.1 ∈ big := mem_big (List.mem_of_getElem? (i := 236) (by decide +kernel)) (by decide +kernel)
theorem fl_X0_24 : Cond.fieldLink RX0 24 (TX0 2).1 (TX0 2).2.1 (TX0 2).2.2.1 ∈ big := mem_big (List.mem_of_getElem? (i := 237) (by decide +kernel)) (by decide +kernel)
theorem fl_X0_27 : Cond.fieldLink RX0 27 (TX0 3).1 (TX0 3).2.1 (TX0 3).2.2.1 ∈ big := mem_big (List.mem_of_getElem? (i := 238) (by decide +kernel)) (by decide +kernel)
theorem fl_X0_33 : Cond.fieldLink RX0 33 (TX0 5).1 (TX0 5).2.1 (TX0 5).2.2.1 ∈ big := mem_big (List.mem_of_getElem? (i := 240) (by decide +kernel)) (by decide +kernel)
theorem fl_X0_36 : Cond.fieldLink RX0 36 (TX0 6).1 (TX0 6).2.1 (TX0 6).2.2.1 ∈ big := mem_big (List.mem_of_getElem? (i := 241) (by decide +kernel)) (by decide +kernel)
theorem fl_X0_39 : Cond.fieldLink RX0 39 (TX0 7).1 (TX0 7).2.1 (TX0 7).2.2.1 ∈ big := mem_big (List.mem_of_getElem? (i := 242) (by decide +kernel)) (by decide +kernel)
theorem fl_X0_42 : Cond.fieldLink RX0 42 (TX0 11).1 (TX0 11).2.1 (TX0 11).2.2.1 ∈ big := mem_big (List.mem_of_getElem? (i := 247) (by decide +kernel)) (by decide +kernel)
theorem fl_X0_46 : Cond.fieldLink RX0 46 (TX0 12).1 (TX0 12).2.1 (TX0 12).2.2.1 ∈ big := mem_big (List.mem_of_getElem? (i := 249) (by decide +kernel)) (by decide +kernel)
theorem fl_X0_61 : Cond.fieldLink RX0 61 (TX0 10).1 (TX0 10).2.1 (TX0 10).2.2.1 ∈ big := mem_big (List.mem_of_getElem? (i := 245) (by decide +kernel)) (by decide +kernel)
theorem fl_X0_64 : Cond.fieldLink RX0 64 (TX0 4).1 (TX0 4).2.1 (TX0 4).2.2.1 ∈ big := mem_big (List.mem_of_getElem? (i := 239) (by decide +kernel)) (by decide +kernel)
theorem fl_X0_67 : Cond.fieldLink RX0 67 (TX0 8).1 (TX0 8).2.1 (TX0 8).2.2.1 ∈ big := mem_big (List.mem_of_getElem? (i := 243) (by decide +kernel)) (by decide +kernel)
theorem fl_X0_70 : Cond.fieldLink RX0 70 (TX0 9).1 (TX0 9).2.1 (TX0 9).2.2.1 ∈ big := mem_big (List.mem_of_getElem? (i := 244) (by decide +kernel)) (by decide +kernel)
theorem fl_X0_100 : Cond.fieldLink RX0 100 (TX10 3).1 (TX10 3).2.1 (TX10 3).2.2.1 ∈ big := mem_big (List.mem_of_getElem? (i := 163) (by decide +kernel)) (by decide +kernel)
theorem fl_X0_103 : Cond.fieldLink RX0 103 (TX10 4).1 (TX10 4).2.1 (TX10 4).2.2.1 ∈ big := mem_big (List.mem_of_getElem? (i := 165) (by decide +kernel)) (by decide +kernel)
theorem fl_X0_115 : Cond.fieldLink RX0 115 (TX10 5).1 (TX10 5).2.1 (TX10 5).2.2.1 ∈ big := mem_big (List.mem_of_getElem? (i := 167) (by decide +kernel)) (by decide +kernel)
theorem fl_X0_133 : Cond.fieldLink RX0 133 (TX8 3).1 (TX8 3).2.1 (TX8 3).2.2.1 ∈ big := mem_big (List.mem_of_getElem? (i := 297) (by decide +kernel)) (by decide +kernel)
theorem fl_X0_140 : Cond.fieldLink RX0 140 (TX8 0).1 (TX8 0).2.1 (TX8 0).2.2.1 ∈ big := mem_big (List.mem_of_getElem? (i := 288) (by decide +kernel)) (by decide +kernel)
theorem fl_X0_143 : Cond.fieldLink RX0 143 (TX8 2).1 (TX8 2).2.1 (TX8 2).2.2.1 ∈ big := mem_big (List.mem_of_getElem? (i := 292) (by decide +kernel)) (by decide +kernel)
theorem fl_X0_157 : Cond.fieldLink RX0 157 (TX10 6).1 (TX10 6).2.1 (TX10 6).2.2.1 ∈ big := mem_big (List.mem_of_getElem? (i := 169) (by decide +kernel)) (by decide +kernel)
theorem fl_X1_9 : Cond.fieldLink RX1 9 (TX1 0).1 (TX1 0).2.1 (TX1 0).2.2.1 ∈ big := mem_big (List.mem_of_getElem? (i := 459) (by decide +kernel)) (by decide +kernel)
theorem fl_X1_15 : Cond.fieldLink RX1 15 (TX1 1).1 (TX1 1).2.1 (TX1 1).2.2.1 ∈ big := mem_big (List.mem_of_getElem? (i := 464) (by decide +kernel)) (by decide +kernel)
theorem fl_X1_18 : Cond.fieldLink RX1 18 (TX1 2).1 (TX1 2).2.1 (TX1 2).2.2.1 ∈ big := mem_big (List.mem_of_getElem? (i := 469) (by decide +kernel)) (by decide +kernel)
theorem fl_X2_11 : Cond.fieldLink RX2 11 (TX2 0).1 (TX2 0).2.1 (TX2 0).2.2.1 ∈ big := mem_big (List.mem_of_getElem? (i := 353) (by decide +kernel)) (by decide +kernel)
theorem fl_X2_15 : Cond.fieldLink RX2 15 (TX2 1).1 (TX2 1).2.1 (TX2 1).2.2.1 ∈ big := mem_big (List.mem_of_getElem? (i := 356) (by decide +kernel)) (by decide +kernel)
theorem fl_X2_18 : Cond.fieldLink RX2 18 (TX2 2).1 (TX2 2).2.1 (TX2 2).2.2.1 ∈ big := mem_big (List.mem_of_getElem? (i := 359) (by decide +kernel)) (by decide +kernel)
theorem fl_X2_21 : Cond.fieldLink RX2 21 (TX2 3).1 (TX2 3).2.1 (TX2 3).2.2.1 ∈ big := mem_big (List.mem_of_getElem? (i := 360) (by decide +kernel)) (by decide +kernel)
theorem fl_X2_24 : Cond.fieldLink RX2 24 (TX2 4).1 (TX2 4).2.1 (TX2 4).2.2.1 ∈ big := mem_big (List.mem_of_getElem? (i := 361) (by decide +kernel)) (by decide +kernel)
theorem fl_X2_27 : Cond.fieldLink RX2 27 (TX2 6).1 (TX2 6).2.1 (TX2 6).2.2.1 ∈ big := mem_big (List.mem_of_getElem? (i := 365) (by decide +kernel)) (by decide +kernel)
theorem fl_X2_30 : Cond.fieldLink RX2 30 (TX2 7).1 (TX2 7).2.1 (TX2 7).2.2.1 ∈ big := mem_big (List.mem_of_getElem? (i := 366) (by decide +kernel)) (by decide +kernel)
theorem fl_X2_33 : Cond.fieldLink RX2 33 (TX2 5).1 (TX2 5).2.1 (TX2 5).2.2.1 ∈ big := mem_big (List.mem_of_getElem? (i := 362) (by decide +kernel)) (by decide +kernel)
theorem fl_X2_37 : Cond.fieldLink RX2 37 (TX2 8).1 (TX2 8).2.1 (TX2 8).2.2.1 ∈ big := mem_big (List.mem_of_getElem? (i := 367) (by decide +kernel)) (by decide +kernel)
theorem fl_X2_40 : Cond.fieldLink RX2 40 (TX2 9).1 (TX2 9).2.1 (TX2 9).2.2.1 ∈ big := mem_big (List.mem_of_getElem? (i := 368) (by decide +kernel)) (by decide +kernel)
theorem fl_X2_43 : Cond.fieldLink RX2 43 (TX2 10).1 (TX2 10).2.1 (TX2 10).2.2.1 ∈ big := mem_big (List.mem_of_getElem? (i := 369) (by decide +kernel)) (by decide +kernel)
theorem fl_X3_9 : Cond.fieldLink RX3 9 (TX3 0).1 (TX3 0).2.1 (TX3 0).2.2.1 ∈ big := mem_big (List.mem_of_getElem? (i := 399) (by decide +kernel)) (by decide +kernel)
theorem fl_X3_15 : Cond.fieldLink RX3 15 (TX3 1).1 (TX3 1).2.1 (TX3 1).2.2.1 ∈ big := mem_big (List.mem_of_getElem? (i := 400) (by decide +kernel)) (by decide +kernel)
theorem fl_X3_18 : Cond.fieldLink RX3 18 (TX3 2).1 (TX3 2).2.1 (TX3 2).2.2.1 ∈ big := mem_big (List.mem_of_getElem? (i := 401) (by decide +kernel)) (by decide +kernel)
theorem fl_X3_26 : Cond.fieldLink RX3 26 (TX2 5).1 (TX2 5).2.1 (TX2 5).2.2.1 ∈ big := mem_big (List.mem_of_getElem? (i := 363) (by decide +kernel)) (by decide +kernel)
theorem fl_X3_33 : Cond.fieldLink RX3 33 (TX2 0).1 (TX2 0).2.1 (TX2 0).2.2.1 ∈ big := mem_big (List.mem_of_getElem? (i := 354) (by decide +kernel)) (by decide +kernel)
theorem fl_X3_36 : Cond.fieldLink RX3 36 (TX2 1).1 (TX2 1).2.1 (TX2 1).2.2.1 ∈ big := mem_big (List.mem_of_getElem? (i := 357) (by decide +kernel)) (by decide +kernel)
theorem fl_X3_43 : Cond.fieldLink RX3 43 (TX1 1).1 (TX1 1).2.1 (TX1 1).2.2.1 ∈ big := mem_big (List.mem_of_getElem? (i := 465) (by decide +kernel)) (by decide +kernel)
theorem fl_X3_48 : Cond.fieldLink RX3 48 (TX1 0).1 (TX1 0).2.1 (TX1 0).2.2.1 ∈ big := mem_big (List.mem_of_getElem? (i := 460) (by decide +kernel)) (by decide +kernel)
theorem fl_X4_11 : Cond.fieldLink RX4 11 (TX4 0).1 (TX4 0).2.1 (TX4 0).2.2.1 ∈ big := mem_big (List.mem_of_getElem? (i := 415) (by decide +kernel)) (by decide +kernel)
theorem fl_X4_15 : Cond.fieldLink RX4 15 (TX4 1).1 (TX4 1).2.1 (TX4 1).2.2.1 ∈ big := mem_big (List.mem_of_getElem? (i := 416) (by decide +kernel)) (by decide +kernel)
theorem fl_X4_18 : Cond.fieldLink RX4 18 (TX4 2).1 (TX4 2).2.1 (TX4 2).2.2.1 ∈ big := mem_big (List.mem_of_getElem? (i := 417) (by decide +kernel)) (by decide +kernel)
theorem fl_X4_21 : Cond.fieldLink RX4 21 (TX4 3).1 (TX4 3).2.1 (TX4 3).2.2.1 ∈ big := mem_big (List.mem_of_getElem? (i := 418) (by decide +kernel)) (by decide +kernel)
theorem fl_X4_24 : Cond.fieldLink RX4 24 (TX4 7).1 (TX4 7).2.1 (TX4 7).2.2.1 ∈ big := mem_big (List.mem_of_getElem? (i := 425) (by decide +kernel)) (by decide +kernel)
theorem fl_X4_27 : Cond.fieldLink RX4 27 (TX4 8).1 (TX4 8).2.1 (TX4 8).2.2.1 ∈ big := mem_big (List.mem_of_getElem? (i := 426) (by decide +kernel)) (by decide +kernel)
theorem fl_X4_30 : Cond.fieldLink RX4 30 (TX4 9).1 (TX4 9).2.1 (TX4 9).2.2.1 ∈ big := mem_big (List.mem_of_getElem? (i := 427) (by decide +kernel)) (by decide +kernel)
theorem fl_X4_33 : Cond.fieldLink RX4 33 (TX4 4).1 (TX4 4).2.1 (TX4 4).2.2.1 ∈ big := mem_big (List.mem_of_getElem? (i := 419) (by decide +kernel)) (by decide +kernel)
theorem fl_X4_37 : Cond.fieldLink RX4 37 (TX4 5).1 (TX4 5).2.1 (TX4 5).2.2.1 ∈ big := mem_big (List.mem_of_getElem? (i := 421) (by decide +kernel)) (by decide +kernel)
theorem fl_X4_40 : Cond.fieldLink RX4 40 (TX4 6).1 (TX4 6).2.1 (TX4 6).2.2.1 ∈ big := mem_big (List.mem_of_getElem? (i := 423) (by decide +kernel)) (by decide +kernel)
theorem fl_X4_43 : Cond.fieldLink RX4 43 (TX4 10).1 (TX4 10).2.1 (TX4 10).2.2.1 ∈ big := mem_big (List.mem_of_getElem? (i := 428) (by decide +kernel)) (by decide +kernel)
theorem fl_X5_12 : Cond.fieldLink RX5 12 (TX5 1).1 (TX5 1).2.1 (TX5 1).2.2.1 ∈ big := mem_big (List.mem_of_getElem? (i := 481) (by decide +kernel)) (by decide +kernel)
theorem fl_X5_21 : Cond.fieldLink RX5 21 (TX5 2).1 (TX5 2).2.1 (TX5 2).2.2.1 ∈ big := mem_big (List.mem_of_getElem? (i := 483) (by decide +kernel)) (by decide +kernel)
theorem fl_X5_28 : Cond.fieldLink RX5 28 (TX5 3).1 (TX5 3).2.1 (TX5 3).2.2.1 ∈ big := mem_big (List.mem_of_getElem? (i := 484) (by decide +kernel)) (by decide +kernel)
theorem fl_X5_35 : Cond.fieldLink RX5 35 (TX5 4).1 (TX5 4).2.1 (TX5 4).2.2.1 ∈ big := mem_big (List.mem_of_getElem? (i := 485) (by decide +kernel)) (by decide +kernel)
theorem fl_X5_41 : Cond.fieldLink RX5 41 (TX5 5).1 (TX5 5).2.1 (TX5 5).2.2.1 ∈ big := mem_big (List.mem_of_getElem? (i := 487) (by decide +kernel)) (by decide +kernel)
theorem fl_X5_46 : Cond.fieldLink RX5 46 (TX5 6).1 (TX5 6).2.1 (TX5 6).2.2.1 ∈ big := mem_big (List.mem_of_getElem? (i := 489) (by decide +kernel)) (by decide +kernel)
theorem fl_X5_50 : Cond.fieldLink RX5 50 (TX5 7).1 (TX5 7).2.1 (TX5 7).2.2.1 ∈ big := mem_big (List.mem_of_getElem? (i := 490) (by decide +kernel)) (by decide +kernel)
theorem fl_X5_53 : Cond.fieldLink RX5 53 (TX5 15).1 (TX5 15).2.1 (TX5 15).2.2.1 ∈ big := mem_big (List.mem_of_getElem? (i := 501) (by decide +kernel)) (by decide +kernel)
theorem fl_X5_57 : Cond.fieldLink RX5 57 (TX5 17).1 (TX5 17).2.1 (TX5 17).2.2.1 ∈ big := mem_big (List.mem_of_getElem? (i := 503) (by decide +kernel)) (by decide +kernel)
theorem fl_X5_60 : Cond.fieldLink RX5 60 (TX5 0).1 (TX5 0).2.1 (TX5 0).2.2.1 ∈ big := mem_big (List.mem_of_getElem? (i := 480) (by decide +kernel)) (by decide +kernel)
theorem fl_X5_64 : Cond.fieldLink RX5 64 (TX5 8).1 (TX5 8).2.1 (TX5 8).2.2.1 ∈ big := mem_big (List.mem_of_getElem? (i := 491) (by decide +kernel)) (by decide +kernel)
theorem fl_X5_86 : Cond.fieldLink RX5 86 (TX5 12).1 (TX5 12).2.1 (TX5 12).2.2.1 ∈ big := mem_big (List.mem_of_getElem? (i := 496) (by decide +kernel)) (by decide +kernel)
theorem fl_X5_90 : Cond.fieldLink RX5 90 (TX5 13).1 (TX5 13).2.1 (TX5 13).2.2.1 ∈ big := mem_big (List.mem_of_getElem? (i := 498) (by decide +kernel)) (by decide +kernel)
theorem fl_X5_93 : Cond.fieldLink RX5 93 (TX5 14).1 (TX5 14).2.1 (TX5 14).2.2.1 ∈ big := mem_big (List.mem_of_getElem? (i := 500) (by decide +kernel)) (by decide +kernel)
theorem fl_X5_96 : Cond.fieldLink RX5 96 (TX5 16).1 (TX5 16).2.1 (TX5 16).2.2.1 ∈ big := mem_big (List.mem_of_getElem? (i := 502) (by decide +kernel)) (by decide +kernel)
theorem fl_X5_99 : Cond.fieldLink RX5 99 (TX5 18).1 (TX5 18).2.1 (TX5 18).2.2.1 ∈ big := mem_big (List.mem_of_getElem? (i := 504) (by decide +kernel)) (by decide +kernel)
theorem fl_X5_102 : Cond.fieldLink RX5 102 (TX5 11).1 (TX5 11).2.1 (TX5 11).2.2.1 ∈ big := mem_big (List.mem_of_getElem? (i := 495) (by decide +kernel)) (by decide +kernel)
theorem fl_X5_108 : Cond.fieldLink RX5 108 (TX5 9).1 (TX5 9).2.1 (TX5 9).2.2.1 ∈ big := mem_big (List.mem_of_getElem? (i := 493) (by decide +kernel)) (by decide +kernel)
theorem fl_X5_111 : Cond.fieldLink RX5 111 (TX8 3).1 (TX8 3).2.1 (TX8 3).2.2.1 ∈ big := mem_big (List.mem_of_getElem? (i := 295) (by decide +kernel)) (by decide +kernel)
theorem fl_X5_116 : Cond.fieldLink RX5 116 (TX8 0).1 (TX8 0).2.1 (TX8 0).2.2.1 ∈ big := mem_big (List.mem_of_getElem? (i := 287) (by decide +kernel)) (by decide +kernel)
theorem fl_X5_119 : Cond.fieldLink RX5 119 (TX5 10).1 (TX5 10).2.1 (TX5 10).2.2.1 ∈ big := mem_big (List.mem_of_getElem? (i := 494) (by decide +kernel)) (by decide +kernel)
theorem fl_X5_130 : Cond.fieldLink RX5 130 (TX4 4).1 (TX4 4).2.1 (TX4 4).2.2.1 ∈ big := mem_big (List.mem_of_getElem? (i := 420) (by decide +kernel)) (by decide +kernel)
theorem fl_X5_133 : Cond.fieldLink RX5 133 (TX4 5).1 (TX4 5).2.1 (TX4 5).2.2.1 ∈ big := mem_big (List.mem_of_getElem? (i := 422) (by decide +kernel)) (by decide +kernel)
theorem fl_X5_136 : Cond.fieldLink RX5 136 (TX4 6).1 (TX4 6).2.1 (TX4 6).2.2.1 ∈ big := mem_big (List.mem_of_getElem? (i := 424) (by decide +kernel)) (by decide +kernel)
theorem fl_X5_139 : Cond.fieldLink RX5 139 (TX2 5).1 (TX2 5).2.1 (TX2 5).2.2.1 ∈ big := mem_big (List.mem_of_getElem? (i := 364) (by decide +kernel)) (by decide +kernel)
theorem fl_X5_206 : Cond.fieldLink RX5 206 (TX8 1).1 (TX8 1).2.1 (TX8 1).2.2.1 ∈ big := mem_big (List.mem_of_getElem? (i := 290) (by decide +kernel)) (by decide +kernel)
theorem fl_X5_221 : Cond.fieldLink RX5 221 (TX8 2).1 (TX8 2).2.1 (TX8 2).2.2.1 ∈ big := mem_big (List.mem_of_getElem? (i := 293) (by decide +kernel)) (by decide +kernel)
theorem fl_X5_232 : Cond.fieldLink RX5 232 (TX1 0).1 (TX1 0).2.1 (TX1 0).2.2.1 ∈ big := mem_big (List.mem_of_getElem? (i := 462) (by decide +kernel)) (by decide +kernel)
theorem fl_X5_241 : Cond.fieldLink RX5 241 (TX1 1).1 (TX1 1).2.1 (TX1 1).2.2.1 ∈ big := mem_big (List.mem_of_getElem? (i := 467) (by decide +kernel)) (by decide +kernel)
theorem fl_X5_244 : Cond.fieldLink RX5 244 (TX1 2).1 (TX1 2).2.1 (TX1 2).2.2.1 ∈ big := mem_big (List.mem_of_getElem? (i := 471) (by decide +kernel)) (by decide +kernel)
theorem fl_X5_303 : Cond.fieldLink RX5 303 (TX2 0).1 (TX2 0).2.1 (TX2 0).2.2.1 ∈ big := mem_big (List.mem_of_getElem? (i := 355) (by decide +kernel)) (by decide +kernel)
theorem fl_X5_322 : Cond.fieldLink RX5 322 (TX2 1).1 (TX2 1).2.1 (TX2 1).2.2.1 ∈ big := mem_big (List.mem_of_getElem? (i := 358) (by decide +kernel)) (by decide +kernel)
theorem fl_X5_345 : Cond.fieldLink RX5 345 (TX8 5).1 (TX8 5).2.1 (TX8 5).2.2.1 ∈ big := mem_big (List.mem_of_getElem? (i := 301) (by decide +kernel)) (by decide +kernel)
theorem fl_X5_348 : Cond.fieldLink RX5 348 (TX8 4).1 (TX8 4).2.1 (TX8 4).2.2.1 ∈ big := mem_big (List.mem_of_getElem? (i := 299) (by decide +kernel)) (by decide +kernel)
theorem fl_X6_11 : Cond.fieldLink RX6 11 (TX6 0).1 (TX6 0).2.1 (TX6 0).2.2.1 ∈ big := mem_big (List.mem_of_getElem? (i := 328) (by decide +kernel)) (by decide +kernel)
theorem fl_X6_15 : Cond.fieldLink RX6 15 (TX6 1).1 (TX6 1).2.1 (TX6 1).2.2.1 ∈ big := mem_big (List.mem_of_getElem? (i := 329) (by decide +kernel)) (by decide +kernel)
theorem fl_X6_18 : Cond.fieldLink RX6 18 (TX6 2).1 (TX6 2).2.1 (TX6 2).2.2.1 ∈ big := mem_big (List.mem_of_getElem? (i := 330) (by decide +kernel)) (by decide +kernel)
theorem fl_X6_21 : Cond.fieldLink RX6 21 (TX6 3).1 (TX6 3).2.1 (TX6 3).2.2.1 ∈ big := mem_big (List.mem_of_getElem? (i := 331) (by decide +kernel)) (by decide +kernel)
theorem fl_X6_25 : Cond.fieldLink RX6 25 (TX6 4).1 (TX6 4).2.1 (TX6 4).2.2.1 ∈ big := mem_big (List.mem_of_getElem? (i := 332) (by decide +kernel)) (by decide +kernel)
theorem fl_X6_29 : Cond.fieldLink RX6 29 (TX6 5).1 (TX6 5).2.1 (TX6 5).2.2.1 ∈ big := mem_big (List.mem_of_getElem? (i := 333) (by decide +kernel)) (by decide +kernel)
theorem fl_X6_65 : Cond.fieldLink RX6 65 (TX1 0).1 (TX1 0).2.1 (TX1 0).2.2.1 ∈ big := mem_big (List.mem_of_getElem? (i := 463) (by decide +kernel)) (by decide +kernel)
theorem fl_X6_67 : Cond.fieldLink RX6 67 (TX1 1).1 (TX1 1).2.1 (TX1 1).2.2.1 ∈ big := mem_big (List.mem_of_getElem? (i := 468) (by decide +kernel)) (by decide +kernel)
theorem fl_X6_70 : Cond.fieldLink RX6 70 (TX1 2).1 (TX1 2).2.1 (TX1 2).2.2.1 ∈ big := mem_big (List.mem_of_getElem? (i := 472) (by decide +kernel)) (by decide +kernel)
theorem fl_X8_15 : Cond.fieldLink RX8 15 (TX8 1).1 (TX8 1).2.1 (TX8 1).2.2.1 ∈ big := mem_big (List.mem_of_getElem? (i := 289) (by decide +kernel)) (by decide +kernel)
theorem fl_X8_22 : Cond.fieldLink RX8 22 (TX8 4).1 (TX8 4).2.1 (TX8 4).2.2.1 ∈ big := mem_big (List.mem_of_getElem? (i := 298) (by decide +kernel)) (by decide +kernel)
theorem fl_X8_25 : Cond.fieldLink RX8 25 (TX8 3).1 (TX8 3).2.1 (TX8 3).2.2.1 ∈ big := mem_big (List.mem_of_getElem? (i := 294) (by decide +kernel)) (by decide +kernel)
theorem fl_X8_29 : Cond.fieldLink RX8 29 (TX8 5).1 (TX8 5).2.1 (TX8 5).2.2.1 ∈ big := mem_big (List.mem_of_getElem? (i := 300) (by decide +kernel)) (by decide +kernel)
theorem fl_X9_17 : Cond.fieldLink RX9 17 (TX1 1).1 (TX1 1).2.1 (TX1 1).2.2.1 ∈ big := mem_big (List.mem_of_getElem? (i := 466) (by decide +kernel)) (by decide +kernel)
theorem fl_X9_41 : Cond.fieldLink RX9 41 (TX1 0).1 (TX1 0).2.1 (TX1 0).2.2.1 ∈ big := mem_big (List.mem_of_getElem? (i := 461) (by decide +kernel)) (by decide +kernel)
theorem fl_X9_55 : Cond.fieldLink RX9 55 (TX1 2).1 (TX1 2).2.1 (TX1 2).2.2.1 ∈ big := mem_big (List.mem_of_getElem? (i := 470) (by decide +kernel)) (by decide +kernel)
theorem fl_X10_9 : Cond.fieldLink RX10 9 (TX10 0).1 (TX10 0).2.1 (TX10 0).2.2.1 ∈ big := mem_big (List.mem_of_getElem? (i := 159) (by decide +kernel)) (by decide +kernel)
theorem fl_X10_15 : Cond.fieldLink RX10 15 (TX10 1).1 (TX10 1).2.1 (TX10 1).2.2.1 ∈ big := mem_big (List.mem_of_getElem? (i := 160) (by decide +kernel)) (by decide +kernel)
theorem fl_X10_19 : Cond.fieldLink RX10 19 (TX10 2).1 (TX10 2).2.1 (TX10 2).2.2.1 ∈ big := mem_big (List.mem_of_getElem? (i := 161) (by decide +kernel)) (by decide +kernel)
theorem fl_X10_22 : Cond.fieldLink RX10 22 (TX10 4).1 (TX10 4).2.1 (TX10 4).2.2.1 ∈ big := mem_big (List.mem_of_getElem? (i := 164) (by decide +kernel)) (by decide +kernel)
theorem fl_X10_29 : Cond.fieldLink RX10 29 (TX10 3).1 (TX10 3).2.1 (TX10 3).2.2.1 ∈ big := mem_big (List.mem_of_getElem? (i := 162) (by decide +kernel)) (by decide +kernel)
theorem fl_X10_46 : Cond.fieldLink RX10 46 (TX10 5).1 (TX10 5).2.1 (TX10 5).2.2.1 ∈ big := mem_big (List.mem_of_getElem? (i := 166) (by decide +kernel)) (by decide +kernel)
theorem fl_X10_61 : Cond.fieldLink RX10 61 (TX10 6).1 (TX10 6).2.1 (TX10 6).2.2.1 ∈ big := mem_big (List.mem_of_getElem? (i := 168) (by decide +kernel)) (by decide +kernel)
theorem fl_X12_7 : Cond.fieldLink RX12 7 (TX12 0).1 (TX12 0).2.1 (TX12 0).2.2.1 ∈ big := mem_big (List.mem_of_getElem? (i := 1170) (by decide +kernel)) (by decide +kernel)
theorem fl_X12_13 : Cond.fieldLink RX12 13 (TX12 2).1 (TX12 2).2.1 (TX12 2).2.2.1 ∈ big := mem_big (List.mem_of_getElem? (i := 1172) (by decide +kernel)) (by decide +kernel)
theorem fl_X12_16 : Cond.fieldLink RX12 16 (TX12 4).1 (TX12 4).2.1 (TX12 4).2.2.1 ∈ big := mem_big (List.mem_of_getElem? (i := 1174) (by decide +kernel)) (by decide +kernel)
theorem fl_X12_20 : Cond.fieldLink RX12 20 (TX12 5).1 (TX12 5).2.1 (TX12 5).2.2.1 ∈ big := mem_big (List.mem_of_getElem? (i := 1175) (by decide +kernel)) (by decide +kernel)
theorem fl_X12_24 : Cond.fieldLink RX12 24 (TX12 6).1 (TX12 6).2.1 (TX12 6).2.2.1 ∈ big := mem_big (List.mem_of_getElem? (i := 1176) (by decide +kernel)) (by decide +kernel)
theorem fl_X12_27 : Cond.fieldLink RX12 27 (TX12 7).1 (TX12 7).2.1 (TX12 7).2.2.1 ∈ big := mem_big (List.mem_of_getElem? (i := 1177) (by decide +kernel)) (by decide +kernel)
theorem fl_X12_30 : Cond.fieldLink RX12 30 (TX12 8).1 (TX12 8).2.1 (TX12 8).2.2.1 ∈ big := mem_big (List.mem_of_getElem? (i := 1178) (by decide +kernel)) (by decide +kernel)
theorem fl_X12_33 : Cond.fieldLink RX12 33 (TX12 9).1 (TX12 9).2.1 (TX12 9).2.2.1 ∈ big := mem_big (List.mem_of_getElem? (i := 1179) (by decide +kernel)) (by decide +kernel)
theorem fl_X12_36 : Cond.fieldLink RX12 36 (TX12 10).1 (TX12 10).2.1 (TX12 10).2.2.1 ∈ big := mem_big (List.mem_of_getElem? (i := 1180) (by decide +kernel)) (by decide +kernel)
theorem fl_X12_39 : Cond.fieldLink RX12 39 (TX12 11).1 (TX12 11).2.1 (TX12 11).2.2.1 ∈ big := mem_big (List.mem_of_getElem? (i := 1181) (by decide +kernel)) (by decide +kernel)
theorem fl_X12_42 : Cond.fieldLink RX12 42 (TX12 12).1 (TX12 12).2.1 (TX12 12).2.2.1 ∈ big := mem_big (List.mem_of_getElem? (i := 1182) (by decide +kernel)) (by decide +kernel)
theorem fl_X12_45 : Cond.fieldLink RX12 45 (TX12 13).1 (TX12 13).2.1 (TX12 13).2.2.1 ∈ big := mem_big (List.mem_of_getElem? (i := 1183) (by decide +kernel)) (by decide +kernel)
theorem fl_X12_48 : Cond.fieldLink RX12 48 (TX12 21).1 (TX12 21).2.1 (TX12 21).2.2.1 ∈ big := mem_big (List.mem_of_getElem? (i := 1191) (by decide +kernel)) (by decide +kernel)
theorem fl_X12_52 : Cond.fieldLink RX12 52 (TX12 22).1 (TX12 22).2.1 (TX12 22).2.2.1 ∈ big := mem_big (List.mem_of_getElem? (i := 1192) (by decide +kernel)) (by decide +kernel)
theorem fl_X12_55 : Cond.fieldLink RX12 55 (TX12 30).1 (TX12 30).2.1 (TX12 30).2.2.1 ∈ big := mem_big (List.mem_of_getElem? (i := 1200) (by decide +kernel)) (by decide +kernel)
theorem fl_X12_58 : Cond.fieldLink RX12 58 (TX12 31).1 (TX12 31).2.1 (TX12 31).2.2.1 ∈ big := mem_big (List.mem_of_getElem? (i := 1201) (by decide +kernel)) (by decide +kernel)
theorem fl_X12_61 : Cond.fieldLink RX12 61 (TX12 32).1 (TX12 32).2.1 (TX12 32).2.2.1 ∈ big := mem_big (List.mem_of_getElem? (i := 1202) (by decide +kernel)) (by decide +kernel)
theorem fl_X12_64 : Cond.fieldLink RX12 64 (TX12 33).1 (TX12 33).2.1 (TX12 33).2.2.1 ∈ big := mem_big (List.mem_of_getElem? (i := 1203) (by decide +kernel)) (by decide +kernel)
theorem fl_X12_67 : Cond.fieldLink RX12 67 (TX12 34).1 (TX12 34).2.1 (TX12 34).2.2.1 ∈ big := mem_big (List.mem_of_getElem? (i := 1204) (by decide +kernel)) (by decide +kernel)
theorem fl_X12_70 : Cond.fieldLink RX12 70 (TX12 35).1 (TX12 35).2.1 (TX12 35).2.2.1 ∈ big := mem_big (List.mem_of_getElem? (i := 1205) (by decide +kernel)) (by decide +kernel)
theorem fl_X12_73 : Cond.fieldLink RX12 73 (TX12 36).1 (TX12 36).2.1 (TX12 36).2.2.1 ∈ big := mem_big (List.mem_of_getElem? (i := 1206) (by decide +kernel)) (by decide +kernel)
theorem fl_X12_76 : Cond.fieldLink RX12 76 (TX12 37).1 (TX12 37).2.1 (TX12 37).2.2.1 ∈ big := mem_big (List.mem_of_getElem? (i := 1207) (by decide +kernel)) (by decide +kernel)
theorem fl_X12_79 : Cond.fieldLink RX12 79 (TX12 38).1 (TX12 38).2.1 (TX12 38).2.2.1 ∈ big := mem_big (List.mem_of_getElem? (i := 1208) (by decide +kernel)) (by decide +kernel)
theorem fl_X12_82 : Cond.fieldLink RX12 82 (TX12 39).1 (TX12 39).2.1 (TX12 39).2.2.1 ∈ big := mem_big (List.mem_of_getElem? (i := 1209) (by decide +kernel)) (by decide +kernel)
theorem fl_X12_85 : Cond.fieldLink RX12 85 (TX12 40).1 (TX12 40).2.1 (TX12 40).2.2.1 ∈ big := mem_big (List.mem_of_getElem? (i := 1210) (by decide +kernel)) (by decide +kernel)
theorem fl_X12_88 : Cond.fieldLink RX12 88 (TX12 41).1 (TX12 41).2.1 (TX12 41).2.2.1 ∈ big := mem_big (List.mem_of_getElem? (i := 1211) (by decide +kernel)) (by decide +kernel)
theorem fl_X12_91 : Cond.fieldLink RX12 91 (TX12 42).1 (TX12 42).2.1 (TX12 42).2.2.1 ∈ big := mem_big (List.mem_of_getElem? (i := 1212) (by decide +kernel)) (by decide +kernel)
theorem fl_X12_94 : Cond.fieldLink RX12 94 (TX12 43).1 (TX12 43).2.1 (TX12 43).2.2.1 ∈ big := mem_big (List.mem_of_getElem? (i := 1213) (by decide +kernel)) (by decide +kernel)
theorem fl_X12_97 : Cond.fieldLink RX12 97 (TX12 44).1 (TX12 44).2.1 (TX12 44).2.2.1 ∈ big := mem_big (List.mem_of_getElem? (i := 1214) (by decide +kernel)) (by decide +kernel)
theorem fl_X12_100 : Cond.fieldLink RX12 100 (TX12 45).1 (TX12 45).2.1 (TX12 45).2.2.1 ∈ big := mem_big (List.mem_of_getElem? (i := 1215) (by decide +kernel)) (by decide +kernel)
theorem fl_X12_103 : Cond.fieldLink RX12 103 (TX12 46).1 (TX12 46).2.1 (TX12 46).2.2.1 ∈ big := mem_big (List.mem_of_getElem? (i := 1216) (by decide +kernel)) (by decide +kernel)
theorem fl_X12_106 : Cond.fieldLink RX12 106 (TX12 47).1 (TX12 47).2.1 (TX12 47).2.2.1 ∈ big := mem_big (List.mem_of_getElem? (i := 1217) (by decide +kernel)) (by decide +kernel)
theorem fl_X12_109 : Cond.fieldLink RX12 109 (TX12 48).1 (TX12 48).2.1 (TX12 48).2.2.1 ∈ big := mem_big (List.mem_of_getElem? (i := 1218) (by decide +kernel)) (by decide +kernel)
theorem fl_X12_112 : Cond.fieldLink RX12 112 (TX12 49).1 (TX12 49).2.1 (TX12 49).2.2.1 ∈ big := mem_big (List.mem_of_getElem? (i := 1219) (by decide +kernel)) (by decide +kernel)
theorem fl_X12_115 : Cond.fieldLink RX12 115 (TX12 50).1 (TX12 50).2.1 (TX12 50).2.2.1 ∈ big := mem_big (List.mem_of_getElem? (i := 1220) (by decide +kernel)) (by decide +kernel)
theorem fl_X12_118 : Cond.fieldLink RX12 118 (TX12 51).1 (TX12 51).2.1 (TX12 51).2.2.1 ∈ big := mem_big (List.mem_of_getElem? (i := 1221) (by decide +kernel)) (by decide +kernel)
theorem fl_X12_121 : Cond.fieldLink RX12 121 (TX12 52).1 (TX12 52).2.1 (TX12 52).2.2.1 ∈ big := mem_big (List.mem_of_getElem? (i := 1222) (by decide +kernel)) (by decide +kernel)
theorem fl_X12_124 : Cond.fieldLink RX12 124 (TX12 53).1 (TX12 53).2.1 (TX12 53).2.2.1 ∈ big := mem_big (List.mem_of_getElem? (i := 1223) (by decide +kernel)) (by decide +kernel)
theorem fl_X12_127 : Cond.fieldLink RX12 127 (TX12 54).1 (TX12 54).2.1 (TX12 54).2.2.1 ∈ big := mem_big (List.mem_of_getElem? (i := 1224) (by decide +kernel)) (by decide +kernel)
theorem fl_X12_130 : Cond.fieldLink RX12 130 (TX12 57).1 (TX12 57).2.1 (TX12 57).2.2.1 ∈ big := mem_big (List.mem_of_getElem? (i := 1227) (by decide +kernel)) (by decide +kernel)
theorem fl_X12_133 : Cond.fieldLink RX12 133 (TX12 58).1 (TX12 58).2.1 (TX12 58).2.2.1 ∈ big := mem_big (List.mem_of_getElem? (i := 1228) (by decide +kernel)) (by decide +kernel)
theorem fl_X12_136 : Cond.fieldLink RX12 136 (TX12 59).1 (TX12 59).2.1 (TX12 59).2.2.1 ∈ big := mem_big (List.mem_of_getElem? (i := 1229) (by decide +kernel)) (by decide +kernel)
theorem fl_X12_139 : Cond.fieldLink RX12 139 (TX12 60).1 (TX12 60).2.1 (TX12 60).2.2.1 ∈ big := mem_big (List.mem_of_getElem? (i := 1230) (by decide +kernel)) (by decide +kernel)
theorem fl_X12_142 : Cond.fieldLink RX12 142 (TX12 65).1 (TX12 65).2.1 (TX12 65).2.2.1 ∈ big := mem_big (List.mem_of_getElem? (i := 1235) (by decide +kernel)) (by decide +kernel)
theorem fl_X12_145 : Cond.fieldLink RX12 145 (TX12 66).1 (TX12 66).2.1 (TX12 66).2.2.1 ∈ big := mem_big (List.mem_of_getElem? (i := 1236) (by decide +kernel)) (by decide +kernel)
theorem fl_X12_148 : Cond.fieldLink RX12 148 (TX12 67).1 (TX12 67).2.1 (TX12 67).2.2.1 ∈ big := mem_big (List.mem_of_getElem? (i := 1237) (by decide +kernel)) (by decide +kernel)
theorem fl_X12_151 : Cond.fieldLink RX12 151 (TX12 70).1 (TX12 70).2.1 (TX12 70).2.2.1 ∈ big := mem_big (List.mem_of_getElem? (i := 1240) (by decide +kernel)) (by decide +kernel)
theorem fl_X12_154 : Cond.fieldLink RX12 154 (TX12 71).1 (TX12 71).2.1 (TX12 71).2.2.1 ∈ big := mem_big (List.mem_of_getElem? (i := 1241) (by decide +kernel)) (by decide +kernel)
theorem fl_X12_157 : Cond.fieldLink RX12 157 (TX12 72).1 (TX12 72).2.1 (TX12 72).2.2.1 ∈ big := mem_big (List.mem_of_getElem? (i := 1242) (by decide +kernel)) (by decide +kernel)
theorem fl_X12_160 : Cond.fieldLink RX12 160 (TX12 74).1 (TX12 74).2.1 (TX12 74).2.2.1 ∈ big := mem_big (List.mem_of_getElem? (i := 1244) (by decide +kernel)) (by decide +kernel)
theorem fl_X12_269 : Cond.fieldLink RX12 269 (TX12 3).1 (TX12 3).2.1 (TX12 3).2.2.1 ∈ big := mem_big (List.mem_of_getElem? (i := 1173) (by decide +kernel)) (by decide +kernel)
theorem fl_X12_272 : Cond.fieldLink RX12 272 (TX12 20).1 (TX12 20).2.1 (TX12 20).2.2.1 ∈ big := mem_big (List.mem_of_getElem? (i := 1190) (by decide +kernel)) (by decide +kernel)
theorem fl_X12_275 : Cond.fieldLink RX12 275 (TX12 23).1 (TX12 23).2.1 (TX12 23).2.2.1 ∈ big := mem_big (List.mem_of_getElem? (i := 1193) (by decide +kernel)) (by decide +kernel)
theorem fl_X12_285 : Cond.fieldLink RX12 285 (TX12 26).1 (TX12 26).2.1 (TX12 26).2.2.1 ∈ big := mem_big (List.mem_of_getElem? (i := 1196) (by decide +kernel)) (by decide +kernel)
theorem fl_X12_288 : Cond.fieldLink RX12 288 (TX12 25).1 (TX12 25).2.1 (TX12 25).2.2.1 ∈ big := mem_big (List.mem_of_getElem? (i := 1195) (by decide +kernel)) (by decide +kernel)
theorem fl_X12_295 : Cond.fieldLink RX12 295 (TX12 24).1 (TX12 24).2.1 (TX12 24).2.2.1 ∈ big := mem_big (List.mem_of_getElem? (i := 1194) (by decide +kernel)) (by decide +kernel)
theorem fl_X12_313 : Cond.fieldLink RX12 313 (TX12 27).1 (TX12 27).2.1 (TX12 27).2.2.1 ∈ big := mem_big (List.mem_of_getElem? (i := 1197) (by decide +kernel)) (by decide +kernel)
theorem fl_X12_323 : Cond.fieldLink RX12 323 (TX12 17).1 (TX12 17).2.1 (TX12 17).2.2.1 ∈ big := mem_big (List.mem_of_getElem? (i := 1187) (by decide +kernel)) (by decide +kernel)
theorem fl_X12_348 : Cond.fieldLink RX12 348 (TX12 15).1 (TX12 15).2.1 (TX12 15).2.2.1 ∈ big := mem_big (List.mem_of_getElem? (i := 1185) (by decide +kernel)) (by decide +kernel)
theorem fl_X12_355 : Cond.fieldLink RX12 355 (TX12 14).1 (TX12 14).2.1 (TX12 14).2.2.1 ∈ big := mem_big (List.mem_of_getElem? (i := 1184) (by decide +kernel)) (by decide +kernel)
theorem fl_X12_365 : Cond.fieldLink RX12 365 (TX12 18).1 (TX12 18).2.1 (TX12 18).2.2.1 ∈ big := mem_big (List.mem_of_getElem? (i := 1188) (by decide +kernel)) (by decide +kernel)
theorem fl_X12_368 : Cond.fieldLink RX12 368 (TX12 1).1 (TX12 1).2.1 (TX12 1).2.2.1 ∈ big := mem_big (List.mem_of_getElem? (i := 1171) (by decide +kernel)) (by decide +kernel)
theorem fl_X12_377 : Cond.fieldLink RX12 377 (TX12 16).1 (TX12 16).2.1 (TX12 16).2.2.1 ∈ big := mem_big (List.mem_of_getElem? (i := 1186) (by decide +kernel)) (by decide +kernel)
theorem fl_X12_380 : Cond.fieldLink RX12 380 (TX12 19).1 (TX12 19).2.1 (TX12 19).2.2.1 ∈ big := mem_big (List.mem_of_getElem? (i := 1189) (by decide +kernel)) (by decide +kernel)
theorem fl_X12_384 : Cond.fieldLink RX12 384 (TX12 55).1 (TX12 55).2.1 (TX12 55).2.2.1 ∈ big := mem_big (List.mem_of_getElem? (i := 1225) (by decide +kernel)) (by decide +kernel)
theorem fl_X12_387 : Cond.fieldLink RX12 387 (TX12 68).1 (TX12 68).2.1 (TX12 68).2.2.1 ∈ big := mem_big (List.mem_of_getElem? (i := 1238) (by decide +kernel)) (by decide +kernel)
theorem fl_X12_394 : Cond.fieldLink RX12 394 (TX12 28).1 (TX12 28).2.1 (TX12 28).2.2.1 ∈ big := mem_big (List.mem_of_getElem? (i := 1198) (by decide +kernel)) (by decide +kernel)
theorem fl_X12_397 : Cond.fieldLink RX12 397 (TX12 29).1 (TX12 29).2.1 (TX12 29).2.2.1 ∈ big := mem_big (List.mem_of_getElem? (i := 1199) (by decide +kernel)) (by decide +kernel)
theorem fl_X12_400 : Cond.fieldLink RX12 400 (TX12 61).1 (TX12 61).2.1 (TX12 61).2.2.1 ∈ big := mem_big (List.mem_of_getElem? (i := 1231) (by decide +kernel)) (by decide +kernel)
theorem fl_X12_403 : Cond.fieldLink RX12 403 (TX12 62).1 (TX12 62).2.1 (TX12 62).2.2.1 ∈ big := mem_big (List.mem_of_getElem? (i := 1232) (by decide +kernel)) (by decide +kernel)
theorem fl_X12_406 : Cond.fieldLink RX12 406 (TX12 63).1 (TX12 63).2.1 (TX12 63).2.2.1 ∈ big := mem_big (List.mem_of_getElem? (i := 1233) (by decide +kernel)) (by decide +kernel)
theorem fl_X12_409 : Cond.fieldLink RX12 409 (TX12 56).1 (TX12 56).2.1 (TX12 56).2.2.1 ∈ big := mem_big (List.mem_of_getElem? (i := 1226) (by decide +kernel)) (by decide +kernel)
theorem fl_X12_412 : Cond.fieldLink RX12 412 (TX12 64).1 (TX12 64).2.1 (TX12 64).2.2.1 ∈ big := mem_big (List.mem_of_getElem? (i := 1234) (by decide +kernel)) (by decide +kernel)
theorem fl_X12_420 : Cond.fieldLink RX12 420 (TX12 69).1 (TX12 69).2.1 (TX12 69).2.2.1 ∈ big := mem_big (List.mem_of_getElem? (i := 1239) (by decide +kernel)) (by decide +kernel)
theorem fl_X12_559 : Cond.fieldLink RX12 559 (TX12 73).1 (TX12 73).2.1 (TX12 73).2.2.1 ∈ big := mem_big (List.mem_of_getElem? (i := 1243) (by decide +kernel)) (by decide +kernel)
theorem kc_X6_33 : Cond.constant RX6 33 1664525 ∈ big := mem_big (List.mem_of_getElem? (i := 734) (by decide +kernel)) (by decide +kernel)
theorem kc_X6_34 : Cond.constant RX6 34 1013904223 ∈ big := mem_big (List.mem_of_getElem? (i := 735) (by decide +kernel)) (by decide +kernel)
theorem kc_X9_50 : Cond.constant RX9 50 (-2147483648) ∈ big := mem_big (List.mem_of_getElem? (i := 860) (by decide +kernel)) (by decide +kernel)
theorem kc_X12_418 : Cond.constant RX12 418 1664525 ∈ big := mem_big (List.mem_of_getElem? (i := 1533) (by decide +kernel)) (by decide +kernel)
theorem kc_X12_419 : Cond.constant RX12 419 1013904223 ∈ big := mem_big (List.mem_of_getElem? (i := 1534) (by decide +kernel)) (by decide +kernel)
theorem kc_X12_429 : Cond.constant RX12 429 (-2147483648) ∈ big := mem_big (List.mem_of_getElem? (i := 1625) (by decide +kernel)) (by decide +kernel)
theorem kc_X12_558 : Cond.constant RX12 558 200000 ∈ big := mem_big (List.mem_of_getElem? (i := 1567) (by decide +kernel)) (by decide +kernel)
theorem kl_X0_160 : Cond.constantLong RX0 160 29184 ∈ big := mem_big (List.mem_of_getElem? (i := 659) (by decide +kernel)) (by decide +kernel)
theorem kl_X0_162 : Cond.constantLong RX0 162 48 ∈ big := mem_big (List.mem_of_getElem? (i := 660) (by decide +kernel)) (by decide +kernel)
theorem kl_X0_166 : Cond.constantLong RX0 166 8 ∈ big := mem_big (List.mem_of_getElem? (i := 661) (by decide +kernel)) (by decide +kernel)
theorem kl_X10_64 : Cond.constantLong RX10 64 10 ∈ big := mem_big (List.mem_of_getElem? (i := 649) (by decide +kernel)) (by decide +kernel)
theorem kl_X10_66 : Cond.constantLong RX10 66 (-2147483648) ∈ big := mem_big (List.mem_of_getElem? (i := 650) (by decide +kernel)) (by decide +kernel)
theorem kl_X10_68 : Cond.constantLong RX10 68 4294967295 ∈ big := mem_big (List.mem_of_getElem? (i := 651) (by decide +kernel)) (by decide +kernel)
theorem kl_X12_163 : Cond.constantLong RX12 163 27753 ∈ big := mem_big (List.mem_of_getElem? (i := 1452) (by decide +kernel)) (by decide +kernel)
theorem kl_X12_165 : Cond.constantLong RX12 165 28022 ∈ big := mem_big (List.mem_of_getElem? (i := 1453) (by decide +kernel)) (by decide +kernel)
theorem kl_X12_167 : Cond.constantLong RX12 167 7237492 ∈ big := mem_big (List.mem_of_getElem? (i := 1454) (by decide +kernel)) (by decide +kernel)
theorem kl_X12_169 : Cond.constantLong RX12 169 7234919 ∈ big := mem_big (List.mem_of_getElem? (i := 1455) (by decide +kernel)) (by decide +kernel)
theorem kl_X12_171 : Cond.constantLong RX12 171 6382692 ∈ big := mem_big (List.mem_of_getElem? (i := 1456) (by decide +kernel)) (by decide +kernel)
theorem kl_X12_173 : Cond.constantLong RX12 173 7566690 ∈ big := mem_big (List.mem_of_getElem? (i := 1457) (by decide +kernel)) (by decide +kernel)
theorem kl_X12_175 : Cond.constantLong RX12 175 7173484 ∈ big := mem_big (List.mem_of_getElem? (i := 1458) (by decide +kernel)) (by decide +kernel)
theorem kl_X12_177 : Cond.constantLong RX12 177 6580598 ∈ big := mem_big (List.mem_of_getElem? (i := 1459) (by decide +kernel)) (by decide +kernel)
theorem kl_X12_179 : Cond.constantLong RX12 179 7497069 ∈ big := mem_big (List.mem_of_getElem? (i := 1460) (by decide +kernel)) (by decide +kernel)
theorem kl_X12_181 : Cond.constantLong RX12 181 6385252 ∈ big := mem_big (List.mem_of_getElem? (i := 1461) (by decide +kernel)) (by decide +kernel)
theorem kl_X12_183 : Cond.constantLong RX12 183 28530 ∈ big := mem_big (List.mem_of_getElem? (i := 1462) (by decide +kernel)) (by decide +kernel)
theorem kl_X12_185 : Cond.constantLong RX12 185 7892850 ∈ big := mem_big (List.mem_of_getElem? (i := 1463) (by decide +kernel)) (by decide +kernel)
theorem kl_X12_187 : Cond.constantLong RX12 187 7563372 ∈ big := mem_big (List.mem_of_getElem? (i := 1464) (by decide +kernel)) (by decide +kernel)
theorem kl_X12_189 : Cond.constantLong RX12 189 7563378 ∈ big := mem_big (List.mem_of_getElem? (i := 1465) (by decide +kernel)) (by decide +kernel)
theorem kl_X12_191 : Cond.constantLong RX12 191 7561586 ∈ big := mem_big (List.mem_of_getElem? (i := 1466) (by decide +kernel)) (by decide +kernel)
theorem kl_X12_193 : Cond.constantLong RX12 193 25969 ∈ big := mem_big (List.mem_of_getElem? (i := 1467) (by decide +kernel)) (by decide +kernel)
theorem kl_X12_195 : Cond.constantLong RX12 195 28261 ∈ big := mem_big (List.mem_of_getElem? (i := 1468) (by decide +kernel)) (by decide +kernel)
theorem kl_X12_197 : Cond.constantLong RX12 197 27764 ∈ big := mem_big (List.mem_of_getElem? (i := 1469) (by decide +kernel)) (by decide +kernel)
theorem kl_X12_199 : Cond.constantLong RX12 199 7107701 ∈ big := mem_big (List.mem_of_getElem? (i := 1470) (by decide +kernel)) (by decide +kernel)
theorem kl_X12_201 : Cond.constantLong RX12 201 7567458 ∈ big := mem_big (List.mem_of_getElem? (i := 1471) (by decide +kernel)) (by decide +kernel)
theorem kl_X12_203 : Cond.constantLong RX12 203 7567464 ∈ big := mem_big (List.mem_of_getElem? (i := 1472) (by decide +kernel)) (by decide +kernel)
theorem kl_X12_205 : Cond.constantLong RX12 205 27746 ∈ big := mem_big (List.mem_of_getElem? (i := 1473) (by decide +kernel)) (by decide +kernel)
theorem kl_X12_207 : Cond.constantLong RX12 207 7103093 ∈ big := mem_big (List.mem_of_getElem? (i := 1474) (by decide +kernel)) (by decide +kernel)
theorem kl_X12_209 : Cond.constantLong RX12 209 27752 ∈ big := mem_big (List.mem_of_getElem? (i := 1475) (by decide +kernel)) (by decide +kernel)
theorem kl_X12_211 : Cond.constantLong RX12 211 7104629 ∈ big := mem_big (List.mem_of_getElem? (i := 1476) (by decide +kernel)) (by decide +kernel)
theorem kl_X12_213 : Cond.constantLong RX12 213 27767 ∈ big := mem_big (List.mem_of_getElem? (i := 1477) (by decide +kernel)) (by decide +kernel)
theorem kl_X12_219 : Cond.constantLong RX12 219 29538 ∈ big := mem_big (List.mem_of_getElem? (i := 1481) (by decide +kernel)) (by decide +kernel)
theorem kl_X12_221 : Cond.constantLong RX12 221 29544 ∈ big := mem_big (List.mem_of_getElem? (i := 1482) (by decide +kernel)) (by decide +kernel)
theorem kl_X12_223 : Cond.constantLong RX12 223 29559 ∈ big := mem_big (List.mem_of_getElem? (i := 1483) (by decide +kernel)) (by decide +kernel)
theorem kl_X12_225 : Cond.constantLong RX12 225 6448497 ∈ big := mem_big (List.mem_of_getElem? (i := 1484) (by decide +kernel)) (by decide +kernel)
theorem kl_X12_227 : Cond.constantLong RX12 227 6450789 ∈ big := mem_big (List.mem_of_getElem? (i := 1485) (by decide +kernel)) (by decide +kernel)
theorem kl_X12_229 : Cond.constantLong RX12 229 6450292 ∈ big := mem_big (List.mem_of_getElem? (i := 1486) (by decide +kernel)) (by decide +kernel)
theorem kl_X12_231 : Cond.constantLong RX12 231 6448997 ∈ big := mem_big (List.mem_of_getElem? (i := 1487) (by decide +kernel)) (by decide +kernel)
theorem kl_X12_233 : Cond.constantLong RX12 233 1651274869 ∈ big := mem_big (List.mem_of_getElem? (i := 1488) (by decide +kernel)) (by decide +kernel)
theorem kl_X12_235 : Cond.constantLong RX12 235 1650943349 ∈ big := mem_big (List.mem_of_getElem? (i := 1489) (by decide +kernel)) (by decide +kernel)
theorem kl_X12_237 : Cond.constantLong RX12 237 6974832 ∈ big := mem_big (List.mem_of_getElem? (i := 1490) (by decide +kernel)) (by decide +kernel)
theorem kl_X12_239 : Cond.constantLong RX12 239 1667329132 ∈ big := mem_big (List.mem_of_getElem? (i := 1491) (by decide +kernel)) (by decide +kernel)
theorem kl_X12_241 : Cond.constantLong RX12 241 7497076 ∈ big := mem_big (List.mem_of_getElem? (i := 1492) (by decide +kernel)) (by decide +kernel)
theorem kl_X12_243 : Cond.constantLong RX12 243 1751215220 ∈ big := mem_big (List.mem_of_getElem? (i := 1493) (by decide +kernel)) (by decide +kernel)
theorem kl_X12_245 : Cond.constantLong RX12 245 1886745448 ∈ big := mem_big (List.mem_of_getElem? (i := 1494) (by decide +kernel)) (by decide +kernel)
theorem kl_X12_247 : Cond.constantLong RX12 247 7368560 ∈ big := mem_big (List.mem_of_getElem? (i := 1495) (by decide +kernel)) (by decide +kernel)
theorem kl_X12_249 : Cond.constantLong RX12 249 7234935 ∈ big := mem_big (List.mem_of_getElem? (i := 1496) (by decide +kernel)) (by decide +kernel)
theorem kl_X12_251 : Cond.constantLong RX12 251 2053468783 ∈ big := mem_big (List.mem_of_getElem? (i := 1497) (by decide +kernel)) (by decide +kernel)
theorem kl_X12_253 : Cond.constantLong RX12 253 1735552887 ∈ big := mem_big (List.mem_of_getElem? (i := 1498) (by decide +kernel)) (by decide +kernel)
theorem kl_X12_255 : Cond.constantLong RX12 255 1718773093 ∈ big := mem_big (List.mem_of_getElem? (i := 1499) (by decide +kernel)) (by decide +kernel)
theorem kl_X12_257 : Cond.constantLong RX12 257 1668247673 ∈ big := mem_big (List.mem_of_getElem? (i := 1500) (by decide +kernel)) (by decide +kernel)
theorem kl_X12_259 : Cond.constantLong RX12 259 1718185068 ∈ big := mem_big (List.mem_of_getElem? (i := 1501) (by decide +kernel)) (by decide +kernel)
theorem kl_X12_261 : Cond.constantLong RX12 261 26990 ∈ big := mem_big (List.mem_of_getElem? (i := 1502) (by decide +kernel)) (by decide +kernel)
theorem kl_X12_263 : Cond.constantLong RX12 263 7304564 ∈ big := mem_big (List.mem_of_getElem? (i := 1503) (by decide +kernel)) (by decide +kernel)
theorem kl_X12_265 : Cond.constantLong RX12 265 1835102827 ∈ big := mem_big (List.mem_of_getElem? (i := 1504) (by decide +kernel)) (by decide +kernel)
theorem kl_X12_267 : Cond.constantLong RX12 267 1819242347 ∈ big := mem_big (List.mem_of_getElem? (i := 1505) (by decide +kernel)) (by decide +kernel)
theorem kl_X12_305 : Cond.constantLong RX12 305 10 ∈ big := mem_big (List.mem_of_getElem? (i := 1433) (by decide +kernel)) (by decide +kernel)
theorem kl_X12_307 : Cond.constantLong RX12 307 48 ∈ big := mem_big (List.mem_of_getElem? (i := 1434) (by decide +kernel)) (by decide +kernel)
theorem kl_X12_309 : Cond.constantLong RX12 309 2147483648 ∈ big := mem_big (List.mem_of_getElem? (i := 1435) (by decide +kernel)) (by decide +kernel)
theorem kl_X12_311 : Cond.constantLong RX12 311 4294967295 ∈ big := mem_big (List.mem_of_getElem? (i := 1436) (by decide +kernel)) (by decide +kernel)
theorem kd_X11_layOnTape : Cond.code yX11_layOnTape cX11_layOnTape 3 none ∈ big := mem_big (List.mem_of_getElem? (i := 580) (by decide +kernel)) (by decide +kernel)
theorem ks_X11_layOnTape : Cond.instanceMethod yX11_layOnTape ∈ big ∧ Cond.selects yX11_layOnTape.cls yX11_layOnTape yX11_layOnTape ∈ big := ⟨mem_big (List.mem_of_getElem? (i := 579) (by decide +kernel)) (by decide +kernel), mem_big (List.mem_of_getElem? (i := 0) (by decide +kernel)) (by decide +kernel)⟩
theorem kp_X11_layOnTape : Cond.initialized yX11_layOnTape.cls ∈ big ∧ (yX11_layOnTape.cls ≠ "java/lang/invoke/MethodHandle" ∧ yX11_layOnTape.cls ≠ "java/lang/invoke/VarHandle" ∧ (parseMethodDescriptor yX11_layOnTape.desc).map (fun d => d.parameters.length) = some 1) := ⟨mem_big (List.mem_of_getElem? (i := 120) (by decide +kernel)) (by decide +kernel), by decide +kernel⟩
theorem km_X11_48 : LkV RX11 48 yX11_layOnTape cX11_layOnTape 3 none 1 := ⟨⟨kd_X11_layOnTape, mem_big (List.mem_of_getElem? (i := 577) (by decide +kernel)) (by decide +kernel), kp_X11_layOnTape.1, kp_X11_layOnTape.2⟩, ks_X11_layOnTape⟩
theorem kd_X0_translate : Cond.code yX0_translate cX0_translate 6 (some .boolean) ∈ big := mem_big (List.mem_of_getElem? (i := 592) (by decide +kernel)) (by decide +kernel)
theorem ks_X0_translate : Cond.instanceMethod yX0_translate ∈ big ∧ Cond.selects yX0_translate.cls yX0_translate yX0_translate ∈ big := ⟨mem_big (List.mem_of_getElem? (i := 590) (by decide +kernel)) (by decide +kernel), mem_big (List.mem_of_getElem? (i := 591) (by decide +kernel)) (by decide +kernel)⟩
theorem kp_X0_translate : Cond.initialized yX0_translate.cls ∈ big ∧ (yX0_translate.cls ≠ "java/lang/invoke/MethodHandle" ∧ yX0_translate.cls ≠ "java/lang/invoke/VarHandle" ∧ (parseMethodDescriptor yX0_translate.desc).map (fun d => d.parameters.length) = some 3) := ⟨mem_big (List.mem_of_getElem? (i := 121) (by decide +kernel)) (by decide +kernel), by decide +kernel⟩
theorem km_X11_52 : LkV RX11 52 yX0_translate cX0_translate 6 (some .boolean) 3 := ⟨⟨kd_X0_translate, mem_big (List.mem_of_getElem? (i := 589) (by decide +kernel)) (by decide +kernel), kp_X0_translate.1, kp_X0_translate.2⟩, ks_X0_translate⟩
theorem kd_X4_dropSuppressions : Cond.code yX4_dropSuppressions cX4_dropSuppressions 1 none ∈ big := mem_big (List.mem_of_getElem? (i := 713) (by decide +kernel)) (by decide +kernel)
theorem ks_X4_dropSuppressions : Cond.instanceMethod yX4_dropSuppressions ∈ big ∧ Cond.selects yX4_dropSuppressions.cls yX4_dropSuppressions yX4_dropSuppressions ∈ big := ⟨mem_big (List.mem_of_getElem? (i := 711) (by decide +kernel)) (by decide +kernel), mem_big (List.mem_of_getElem? (i := 712) (by decide +kernel)) (by decide +kernel)⟩
theorem kp_X4_dropSuppressions : Cond.initialized yX4_dropSuppressions.cls ∈ big ∧ (yX4_dropSuppressions.cls ≠ "java/lang/invoke/MethodHandle" ∧ yX4_dropSuppressions.cls ≠ "java/lang/invoke/VarHandle" ∧ (parseMethodDescriptor yX4_dropSuppressions.desc).map (fun d => d.parameters.length) = some 0) := ⟨mem_big (List.mem_of_getElem? (i := 132) (by decide +kernel)) (by decide +kernel), by decide +kernel⟩
theorem km_X11_64 : LkV RX11 64 yX4_dropSuppressions cX4_dropSuppressions 1 none 0 := ⟨⟨kd_X4_dropSuppressions, mem_big (List.mem_of_getElem? (i := 710) (by decide +kernel)) (by decide +kernel), kp_X4_dropSuppressions.1, kp_X4_dropSuppressions.2⟩, ks_X4_dropSuppressions⟩
theorem kd_X5_restart : Cond.code yX5_restart cX5_restart 5 none ∈ big := mem_big (List.mem_of_getElem? (i := 717) (by decide +kernel)) (by decide +kernel)
theorem ks_X5_restart : Cond.instanceMethod yX5_restart ∈ big ∧ Cond.selects yX5_restart.cls yX5_restart yX5_restart ∈ big := ⟨mem_big (List.mem_of_getElem? (i := 715) (by decide +kernel)) (by decide +kernel), mem_big (List.mem_of_getElem? (i := 716) (by decide +kernel)) (by decide +kernel)⟩
theorem kp_X5_restart : Cond.initialized yX5_restart.cls ∈ big ∧ (yX5_restart.cls ≠ "java/lang/invoke/MethodHandle" ∧ yX5_restart.cls ≠ "java/lang/invoke/VarHandle" ∧ (parseMethodDescriptor yX5_restart.desc).map (fun d => d.parameters.length) = some 3) := ⟨mem_big (List.mem_of_getElem? (i := 128) (by decide +kernel)) (by decide +kernel), by decide +kernel⟩
theorem km_X11_69 : LkV RX11 69 yX5_restart cX5_restart 5 none 3 := ⟨⟨kd_X5_restart, mem_big (List.mem_of_getElem? (i := 714) (by decide +kernel)) (by decide +kernel), kp_X5_restart.1, kp_X5_restart.2⟩, ks_X5_restart⟩
theorem kd_X8_addInput : Cond.code yX8_addInput cX8_addInput 2 (some .int) ∈ big := mem_big (List.mem_of_getElem? (i := 764) (by decide +kernel)) (by decide +kernel)
theorem ks_X8_addInput : Cond.instanceMethod yX8_addInput ∈ big ∧ Cond.selects yX8_addInput.cls yX8_addInput yX8_addInput ∈ big := ⟨mem_big (List.mem_of_getElem? (i := 762) (by decide +kernel)) (by decide +kernel), mem_big (List.mem_of_getElem? (i := 763) (by decide +kernel)) (by decide +kernel)⟩
theorem kp_X8_addInput : Cond.initialized yX8_addInput.cls ∈ big ∧ (yX8_addInput.cls ≠ "java/lang/invoke/MethodHandle" ∧ yX8_addInput.cls ≠ "java/lang/invoke/VarHandle" ∧ (parseMethodDescriptor yX8_addInput.desc).map (fun d => d.parameters.length) = some 1) := ⟨mem_big (List.mem_of_getElem? (i := 127) (by decide +kernel)) (by decide +kernel), by decide +kernel⟩
theorem km_X11_85 : LkV RX11 85 yX8_addInput cX8_addInput 2 (some .int) 1 := ⟨⟨kd_X8_addInput, mem_big (List.mem_of_getElem? (i := 761) (by decide +kernel)) (by decide +kernel), kp_X8_addInput.1, kp_X8_addInput.2⟩, ks_X8_addInput⟩
theorem kd_X4_addSuppression : Cond.code yX4_addSuppression cX4_addSuppression 5 (some .int) ∈ big := mem_big (List.mem_of_getElem? (i := 772) (by decide +kernel)) (by decide +kernel)
theorem ks_X4_addSuppression : Cond.instanceMethod yX4_addSuppression ∈ big ∧ Cond.selects yX4_addSuppression.cls yX4_addSuppression yX4_addSuppression ∈ big := ⟨mem_big (List.mem_of_getElem? (i := 770) (by decide +kernel)) (by decide +kernel), mem_big (List.mem_of_getElem? (i := 771) (by decide +kernel)) (by decide +kernel)⟩
theorem kp_X4_addSuppression : Cond.initialized yX4_addSuppression.cls ∈ big ∧ (yX4_addSuppression.cls ≠ "java/lang/invoke/MethodHandle" ∧ yX4_addSuppression.cls ≠ "java/lang/invoke/VarHandle" ∧ (parseMethodDescriptor yX4_addSuppression.desc).map (fun d => d.parameters.length) = some 3) := ⟨mem_big (List.mem_of_getElem? (i := 132) (by decide +kernel)) (by decide +kernel), by decide +kernel⟩
theorem km_X11_89 : LkV RX11 89 yX4_addSuppression cX4_addSuppression 5 (some .int) 3 := ⟨⟨kd_X4_addSuppression, mem_big (List.mem_of_getElem? (i := 769) (by decide +kernel)) (by decide +kernel), kp_X4_addSuppression.1, kp_X4_addSuppression.2⟩, ks_X4_addSuppression⟩
theorem km_X11_93 : LkN RX11 93 Lib.Math.min.name Lib.Math.min.code "java/lang/Math" := ⟨mem_big (List.mem_of_getElem? (i := 777) (by decide +kernel)) (by decide +kernel), mem_big (List.mem_of_getElem? (i := 778) (by decide +kernel)) (by decide +kernel), mem_big (List.mem_of_getElem? (i := 136) (by decide +kernel)) (by decide +kernel), mem_big (List.mem_of_getElem? (i := 779) (by decide +kernel)) (by decide +kernel)⟩
theorem kd_X5_advance : Cond.code yX5_advance cX5_advance 4 (some .int) ∈ big := mem_big (List.mem_of_getElem? (i := 783) (by decide +kernel)) (by decide +kernel)
theorem ks_X5_advance : Cond.instanceMethod yX5_advance ∈ big ∧ Cond.selects yX5_advance.cls yX5_advance yX5_advance ∈ big := ⟨mem_big (List.mem_of_getElem? (i := 781) (by decide +kernel)) (by decide +kernel), mem_big (List.mem_of_getElem? (i := 782) (by decide +kernel)) (by decide +kernel)⟩
theorem kp_X5_advance : Cond.initialized yX5_advance.cls ∈ big ∧ (yX5_advance.cls ≠ "java/lang/invoke/MethodHandle" ∧ yX5_advance.cls ≠ "java/lang/invoke/VarHandle" ∧ (parseMethodDescriptor yX5_advance.desc).map (fun d => d.parameters.length) = some 1) := ⟨mem_big (List.mem_of_getElem? (i := 128) (by decide +kernel)) (by decide +kernel), by decide +kernel⟩
theorem km_X11_99 : LkV RX11 99 yX5_advance cX5_advance 4 (some .int) 1 := ⟨⟨kd_X5_advance, mem_big (List.mem_of_getElem? (i := 780) (by decide +kernel)) (by decide +kernel), kp_X5_advance.1, kp_X5_advance.2⟩, ks_X5_advance⟩
theorem kd_X5_tell : Cond.code yX5_tell cX5_tell 2 (some .int) ∈ big := mem_big (List.mem_of_getElem? (i := 1080) (by decide +kernel)) (by decide +kernel)
theorem ks_X5_tell : Cond.instanceMethod yX5_tell ∈ big ∧ Cond.selects yX5_tell.cls yX5_tell yX5_tell ∈ big := ⟨mem_big (List.mem_of_getElem? (i := 1078) (by decide +kernel)) (by decide +kernel), mem_big (List.mem_of_getElem? (i := 1079) (by decide +kernel)) (by decide +kernel)⟩
theorem kp_X5_tell : Cond.initialized yX5_tell.cls ∈ big ∧ (yX5_tell.cls ≠ "java/lang/invoke/MethodHandle" ∧ yX5_tell.cls ≠ "java/lang/invoke/VarHandle" ∧ (parseMethodDescriptor yX5_tell.desc).map (fun d => d.parameters.length) = some 1) := ⟨mem_big (List.mem_of_getElem? (i := 128) (by decide +kernel)) (by decide +kernel), by decide +kernel⟩
theorem km_X11_102 : LkV RX11 102 yX5_tell cX5_tell 2 (some .int) 1 := ⟨⟨kd_X5_tell, mem_big (List.mem_of_getElem? (i := 1077) (by decide +kernel)) (by decide +kernel), kp_X5_tell.1, kp_X5_tell.2⟩, ks_X5_tell⟩
theorem kd_X1_tell : Cond.code yX1_tell cX1_tell 2 (some .int) ∈ big := mem_big (List.mem_of_getElem? (i := 1092) (by decide +kernel)) (by decide +kernel)
theorem ks_X1_tell : Cond.instanceMethod yX1_tell ∈ big ∧ Cond.selects yX1_tell.cls yX1_tell yX1_tell ∈ big := ⟨mem_big (List.mem_of_getElem? (i := 1090) (by decide +kernel)) (by decide +kernel), mem_big (List.mem_of_getElem? (i := 1091) (by decide +kernel)) (by decide +kernel)⟩
theorem kp_X1_tell : Cond.initialized yX1_tell.cls ∈ big ∧ (yX1_tell.cls ≠ "java/lang/invoke/MethodHandle" ∧ yX1_tell.cls ≠ "java/lang/invoke/VarHandle" ∧ (parseMethodDescriptor yX1_tell.desc).map (fun d => d.parameters.length) = some 1) := ⟨mem_big (List.mem_of_getElem? (i := 133) (by decide +kernel)) (by decide +kernel), by decide +kernel⟩
theorem km_X11_109 : LkV RX11 109 yX1_tell cX1_tell 2 (some .int) 1 := ⟨⟨kd_X1_tell, mem_big (List.mem_of_getElem? (i := 1089) (by decide +kernel)) (by decide +kernel), kp_X1_tell.1, kp_X1_tell.2⟩, ks_X1_tell⟩
theorem kd_X6_tell : Cond.code yX6_tell cX6_tell 3 (some .int) ∈ big := mem_big (List.mem_of_getElem? (i := 1100) (by decide +kernel)) (by decide +kernel)
theorem ks_X6_tell : Cond.instanceMethod yX6_tell ∈ big ∧ Cond.selects yX6_tell.cls yX6_tell yX6_tell ∈ big := ⟨mem_big (List.mem_of_getElem? (i := 1098) (by decide +kernel)) (by decide +kernel), mem_big (List.mem_of_getElem? (i := 1099) (by decide +kernel)) (by decide +kernel)⟩
theorem kp_X6_tell : Cond.initialized yX6_tell.cls ∈ big ∧ (yX6_tell.cls ≠ "java/lang/invoke/MethodHandle" ∧ yX6_tell.cls ≠ "java/lang/invoke/VarHandle" ∧ (parseMethodDescriptor yX6_tell.desc).map (fun d => d.parameters.length) = some 2) := ⟨mem_big (List.mem_of_getElem? (i := 129) (by decide +kernel)) (by decide +kernel), by decide +kernel⟩
theorem km_X11_116 : LkV RX11 116 yX6_tell cX6_tell 3 (some .int) 2 := ⟨⟨kd_X6_tell, mem_big (List.mem_of_getElem? (i := 1097) (by decide +kernel)) (by decide +kernel), kp_X6_tell.1, kp_X6_tell.2⟩, ks_X6_tell⟩
theorem kd_X4_tell : Cond.code yX4_tell cX4_tell 3 (some .int) ∈ big := mem_big (List.mem_of_getElem? (i := 1108) (by decide +kernel)) (by decide +kernel)
theorem ks_X4_tell : Cond.instanceMethod yX4_tell ∈ big ∧ Cond.selects yX4_tell.cls yX4_tell yX4_tell ∈ big := ⟨mem_big (List.mem_of_getElem? (i := 1106) (by decide +kernel)) (by decide +kernel), mem_big (List.mem_of_getElem? (i := 1107) (by decide +kernel)) (by decide +kernel)⟩
theorem kp_X4_tell : Cond.initialized yX4_tell.cls ∈ big ∧ (yX4_tell.cls ≠ "java/lang/invoke/MethodHandle" ∧ yX4_tell.cls ≠ "java/lang/invoke/VarHandle" ∧ (parseMethodDescriptor yX4_tell.desc).map (fun d => d.parameters.length) = some 2) := ⟨mem_big (List.mem_of_getElem? (i := 132) (by decide +kernel)) (by decide +kernel), by decide +kernel⟩
theorem km_X11_120 : LkV RX11 120 yX4_tell cX4_tell 3 (some .int) 2 := ⟨⟨kd_X4_tell, mem_big (List.mem_of_getElem? (i := 1105) (by decide +kernel)) (by decide +kernel), kp_X4_tell.1, kp_X4_tell.2⟩, ks_X4_tell⟩
theorem kd_X5_outputAt : Cond.code yX5_outputAt cX5_outputAt 2 (some .int) ∈ big := mem_big (List.mem_of_getElem? (i := 1116) (by decide +kernel)) (by decide +kernel)
theorem ks_X5_outputAt : Cond.instanceMethod yX5_outputAt ∈ big ∧ Cond.selects yX5_outputAt.cls yX5_outputAt yX5_outputAt ∈ big := ⟨mem_big (List.mem_of_getElem? (i := 1114) (by decide +kernel)) (by decide +kernel), mem_big (List.mem_of_getElem? (i := 1115) (by decide +kernel)) (by decide +kernel)⟩
theorem kp_X5_outputAt : Cond.initialized yX5_outputAt.cls ∈ big ∧ (yX5_outputAt.cls ≠ "java/lang/invoke/MethodHandle" ∧ yX5_outputAt.cls ≠ "java/lang/invoke/VarHandle" ∧ (parseMethodDescriptor yX5_outputAt.desc).map (fun d => d.parameters.length) = some 1) := ⟨mem_big (List.mem_of_getElem? (i := 128) (by decide +kernel)) (by decide +kernel), by decide +kernel⟩
theorem km_X11_121 : LkV RX11 121 yX5_outputAt cX5_outputAt 2 (some .int) 1 := ⟨⟨kd_X5_outputAt, mem_big (List.mem_of_getElem? (i := 1113) (by decide +kernel)) (by decide +kernel), kp_X5_outputAt.1, kp_X5_outputAt.2⟩, ks_X5_outputAt⟩
theorem kd_X5_tellBlock : Cond.code yX5_tellBlock cX5_tellBlock 3 (some .int) ∈ big := mem_big (List.mem_of_getElem? (i := 1124) (by decide +kernel)) (by decide +kernel)
theorem ks_X5_tellBlock : Cond.instanceMethod yX5_tellBlock ∈ big ∧ Cond.selects yX5_tellBlock.cls yX5_tellBlock yX5_tellBlock ∈ big := ⟨mem_big (List.mem_of_getElem? (i := 1122) (by decide +kernel)) (by decide +kernel), mem_big (List.mem_of_getElem? (i := 1123) (by decide +kernel)) (by decide +kernel)⟩
theorem kp_X5_tellBlock : Cond.initialized yX5_tellBlock.cls ∈ big ∧ (yX5_tellBlock.cls ≠ "java/lang/invoke/MethodHandle" ∧ yX5_tellBlock.cls ≠ "java/lang/invoke/VarHandle" ∧ (parseMethodDescriptor yX5_tellBlock.desc).map (fun d => d.parameters.length) = some 2) := ⟨mem_big (List.mem_of_getElem? (i := 128) (by decide +kernel)) (by decide +kernel), by decide +kernel⟩
theorem km_X11_124 : LkV RX11 124 yX5_tellBlock cX5_tellBlock 3 (some .int) 2 := ⟨⟨kd_X5_tellBlock, mem_big (List.mem_of_getElem? (i := 1121) (by decide +kernel)) (by decide +kernel), kp_X5_tellBlock.1, kp_X5_tellBlock.2⟩, ks_X5_tellBlock⟩
theorem kd_J0_length_8abf5 : Cond.code yJ0_length_8abf5 cJ0_length_8abf5 1 (some .int) ∈ big := mem_big (List.mem_of_getElem? (i := 190) (by decide +kernel)) (by decide +kernel)
theorem ks_J0_length_8abf5 : Cond.instanceMethod yJ0_length_8abf5 ∈ big ∧ Cond.selects yJ0_length_8abf5.cls yJ0_length_8abf5 yJ0_length_8abf5 ∈ big := ⟨mem_big (List.mem_of_getElem? (i := 188) (by decide +kernel)) (by decide +kernel), mem_big (List.mem_of_getElem? (i := 189) (by decide +kernel)) (by decide +kernel)⟩
theorem kp_J0_length_8abf5 : Cond.initialized yJ0_length_8abf5.cls ∈ big ∧ (yJ0_length_8abf5.cls ≠ "java/lang/invoke/MethodHandle" ∧ yJ0_length_8abf5.cls ≠ "java/lang/invoke/VarHandle" ∧ (parseMethodDescriptor yJ0_length_8abf5.desc).map (fun d => d.parameters.length) = some 0) := ⟨mem_big (List.mem_of_getElem? (i := 123) (by decide +kernel)) (by decide +kernel), by decide +kernel⟩
theorem km_X0_51 : LkV RX0 51 yJ0_length_8abf5 cJ0_length_8abf5 1 (some .int) 0 := ⟨⟨kd_J0_length_8abf5, mem_big (List.mem_of_getElem? (i := 187) (by decide +kernel)) (by decide +kernel), kp_J0_length_8abf5.1, kp_J0_length_8abf5.2⟩, ks_J0_length_8abf5⟩
theorem kd_J0_charAt_5068e : Cond.code yJ0_charAt_5068e cJ0_charAt_5068e 2 (some .char) ∈ big := mem_big (List.mem_of_getElem? (i := 200) (by decide +kernel)) (by decide +kernel)
theorem ks_J0_charAt_5068e : Cond.instanceMethod yJ0_charAt_5068e ∈ big ∧ Cond.selects yJ0_charAt_5068e.cls yJ0_charAt_5068e yJ0_charAt_5068e ∈ big := ⟨mem_big (List.mem_of_getElem? (i := 198) (by decide +kernel)) (by decide +kernel), mem_big (List.mem_of_getElem? (i := 199) (by decide +kernel)) (by decide +kernel)⟩
theorem kp_J0_charAt_5068e : Cond.initialized yJ0_charAt_5068e.cls ∈ big ∧ (yJ0_charAt_5068e.cls ≠ "java/lang/invoke/MethodHandle" ∧ yJ0_charAt_5068e.cls ≠ "java/lang/invoke/VarHandle" ∧ (parseMethodDescriptor yJ0_charAt_5068e.desc).map (fun d => d.parameters.length) = some 1) := ⟨mem_big (List.mem_of_getElem? (i := 123) (by decide +kernel)) (by decide +kernel), by decide +kernel⟩
theorem km_X0_57 : LkV RX0 57 yJ0_charAt_5068e cJ0_charAt_5068e 2 (some .char) 1 := ⟨⟨kd_J0_charAt_5068e, mem_big (List.mem_of_getElem? (i := 197) (by decide +kernel)) (by decide +kernel), kp_J0_charAt_5068e.1, kp_J0_charAt_5068e.2⟩, ks_J0_charAt_5068e⟩
theorem kd_X8_clear : Cond.code yX8_clear cX8_clear 1 none ∈ big := mem_big (List.mem_of_getElem? (i := 596) (by decide +kernel)) (by decide +kernel)
theorem ks_X8_clear : Cond.instanceMethod yX8_clear ∈ big ∧ Cond.selects yX8_clear.cls yX8_clear yX8_clear ∈ big := ⟨mem_big (List.mem_of_getElem? (i := 594) (by decide +kernel)) (by decide +kernel), mem_big (List.mem_of_getElem? (i := 595) (by decide +kernel)) (by decide +kernel)⟩
theorem kp_X8_clear : Cond.initialized yX8_clear.cls ∈ big ∧ (yX8_clear.cls ≠ "java/lang/invoke/MethodHandle" ∧ yX8_clear.cls ≠ "java/lang/invoke/VarHandle" ∧ (parseMethodDescriptor yX8_clear.desc).map (fun d => d.parameters.length) = some 0) := ⟨mem_big (List.mem_of_getElem? (i := 127) (by decide +kernel)) (by decide +kernel), by decide +kernel⟩
theorem km_X0_74 : LkV RX0 74 yX8_clear cX8_clear 1 none 0 := ⟨⟨kd_X8_clear, mem_big (List.mem_of_getElem? (i := 593) (by decide +kernel)) (by decide +kernel), kp_X8_clear.1, kp_X8_clear.2⟩, ks_X8_clear⟩
theorem kd_X0_isTooLong : Cond.code yX0_isTooLong cX0_isTooLong 5 (some .boolean) ∈ big := mem_big (List.mem_of_getElem? (i := 600) (by decide +kernel)) (by decide +kernel)
theorem ks_X0_isTooLong : Cond.instanceMethod yX0_isTooLong ∈ big ∧ Cond.selects yX0_isTooLong.cls yX0_isTooLong yX0_isTooLong ∈ big := ⟨mem_big (List.mem_of_getElem? (i := 599) (by decide +kernel)) (by decide +kernel), mem_big (List.mem_of_getElem? (i := 1) (by decide +kernel)) (by decide +kernel)⟩
theorem kp_X0_isTooLong : Cond.initialized yX0_isTooLong.cls ∈ big ∧ (yX0_isTooLong.cls ≠ "java/lang/invoke/MethodHandle" ∧ yX0_isTooLong.cls ≠ "java/lang/invoke/VarHandle" ∧ (parseMethodDescriptor yX0_isTooLong.desc).map (fun d => d.parameters.length) = some 2) := ⟨mem_big (List.mem_of_getElem? (i := 121) (by decide +kernel)) (by decide +kernel), by decide +kernel⟩
theorem km_X0_77 : LkV RX0 77 yX0_isTooLong cX0_isTooLong 5 (some .boolean) 2 := ⟨⟨kd_X0_isTooLong, mem_big (List.mem_of_getElem? (i := 597) (by decide +kernel)) (by decide +kernel), kp_X0_isTooLong.1, kp_X0_isTooLong.2⟩, ks_X0_isTooLong⟩
theorem kd_X0_endOfLine : Cond.code yX0_endOfLine cX0_endOfLine 4 (some .int) ∈ big := mem_big (List.mem_of_getElem? (i := 607) (by decide +kernel)) (by decide +kernel)
theorem ks_X0_endOfLine : Cond.static yX0_endOfLine ∈ big := mem_big (List.mem_of_getElem? (i := 606) (by decide +kernel)) (by decide +kernel)
theorem kp_X0_endOfLine : Cond.initialized yX0_endOfLine.cls ∈ big ∧ (yX0_endOfLine.cls ≠ "java/lang/invoke/MethodHandle" ∧ yX0_endOfLine.cls ≠ "java/lang/invoke/VarHandle" ∧ (parseMethodDescriptor yX0_endOfLine.desc).map (fun d => d.parameters.length) = some 3) := ⟨mem_big (List.mem_of_getElem? (i := 121) (by decide +kernel)) (by decide +kernel), by decide +kernel⟩
theorem km_X0_81 : LkS RX0 81 yX0_endOfLine cX0_endOfLine 4 (some .int) 3 := ⟨⟨kd_X0_endOfLine, mem_big (List.mem_of_getElem? (i := 605) (by decide +kernel)) (by decide +kernel), kp_X0_endOfLine.1, kp_X0_endOfLine.2⟩, ks_X0_endOfLine⟩
theorem kd_X10_openLine : Cond.code yX10_openLine cX10_openLine 4 none ∈ big := mem_big (List.mem_of_getElem? (i := 611) (by decide +kernel)) (by decide +kernel)
theorem ks_X10_openLine : Cond.instanceMethod yX10_openLine ∈ big ∧ Cond.selects yX10_openLine.cls yX10_openLine yX10_openLine ∈ big := ⟨mem_big (List.mem_of_getElem? (i := 609) (by decide +kernel)) (by decide +kernel), mem_big (List.mem_of_getElem? (i := 610) (by decide +kernel)) (by decide +kernel)⟩
theorem kp_X10_openLine : Cond.initialized yX10_openLine.cls ∈ big ∧ (yX10_openLine.cls ≠ "java/lang/invoke/MethodHandle" ∧ yX10_openLine.cls ≠ "java/lang/invoke/VarHandle" ∧ (parseMethodDescriptor yX10_openLine.desc).map (fun d => d.parameters.length) = some 3) := ⟨mem_big (List.mem_of_getElem? (i := 122) (by decide +kernel)) (by decide +kernel), by decide +kernel⟩
theorem km_X0_85 : LkV RX0 85 yX10_openLine cX10_openLine 4 none 3 := ⟨⟨kd_X10_openLine, mem_big (List.mem_of_getElem? (i := 608) (by decide +kernel)) (by decide +kernel), kp_X10_openLine.1, kp_X10_openLine.2⟩, ks_X10_openLine⟩
theorem kd_X0_readLine : Cond.code yX0_readLine cX0_readLine 2 (some .boolean) ∈ big := mem_big (List.mem_of_getElem? (i := 615) (by decide +kernel)) (by decide +kernel)
theorem ks_X0_readLine : Cond.instanceMethod yX0_readLine ∈ big ∧ Cond.selects yX0_readLine.cls yX0_readLine yX0_readLine ∈ big := ⟨mem_big (List.mem_of_getElem? (i := 614) (by decide +kernel)) (by decide +kernel), mem_big (List.mem_of_getElem? (i := 3) (by decide +kernel)) (by decide +kernel)⟩
theorem kp_X0_readLine : Cond.initialized yX0_readLine.cls ∈ big ∧ (yX0_readLine.cls ≠ "java/lang/invoke/MethodHandle" ∧ yX0_readLine.cls ≠ "java/lang/invoke/VarHandle" ∧ (parseMethodDescriptor yX0_readLine.desc).map (fun d => d.parameters.length) = some 0) := ⟨mem_big (List.mem_of_getElem? (i := 121) (by decide +kernel)) (by decide +kernel), by decide +kernel⟩
theorem km_X0_89 : LkV RX0 89 yX0_readLine cX0_readLine 2 (some .boolean) 0 := ⟨⟨kd_X0_readLine, mem_big (List.mem_of_getElem? (i := 612) (by decide +kernel)) (by decide +kernel), kp_X0_readLine.1, kp_X0_readLine.2⟩, ks_X0_readLine⟩
theorem kd_X0_resolveLabels : Cond.code yX0_resolveLabels cX0_resolveLabels 3 (some .boolean) ∈ big := mem_big (List.mem_of_getElem? (i := 709) (by decide +kernel)) (by decide +kernel)
theorem ks_X0_resolveLabels : Cond.instanceMethod yX0_resolveLabels ∈ big ∧ Cond.selects yX0_resolveLabels.cls yX0_resolveLabels yX0_resolveLabels ∈ big := ⟨mem_big (List.mem_of_getElem? (i := 708) (by decide +kernel)) (by decide +kernel), mem_big (List.mem_of_getElem? (i := 16) (by decide +kernel)) (by decide +kernel)⟩
theorem kp_X0_resolveLabels : Cond.initialized yX0_resolveLabels.cls ∈ big ∧ (yX0_resolveLabels.cls ≠ "java/lang/invoke/MethodHandle" ∧ yX0_resolveLabels.cls ≠ "java/lang/invoke/VarHandle" ∧ (parseMethodDescriptor yX0_resolveLabels.desc).map (fun d => d.parameters.length) = some 0) := ⟨mem_big (List.mem_of_getElem? (i := 121) (by decide +kernel)) (by decide +kernel), by decide +kernel⟩
theorem km_X0_93 : LkV RX0 93 yX0_resolveLabels cX0_resolveLabels 3 (some .boolean) 0 := ⟨⟨kd_X0_resolveLabels, mem_big (List.mem_of_getElem? (i := 706) (by decide +kernel)) (by decide +kernel), kp_X0_resolveLabels.1, kp_X0_resolveLabels.2⟩, ks_X0_resolveLabels⟩
theorem kd_X0_refuse : Cond.code yX0_refuse cX0_refuse 4 none ∈ big := mem_big (List.mem_of_getElem? (i := 604) (by decide +kernel)) (by decide +kernel)
theorem ks_X0_refuse : Cond.instanceMethod yX0_refuse ∈ big ∧ Cond.selects yX0_refuse.cls yX0_refuse yX0_refuse ∈ big := ⟨mem_big (List.mem_of_getElem? (i := 603) (by decide +kernel)) (by decide +kernel), mem_big (List.mem_of_getElem? (i := 2) (by decide +kernel)) (by decide +kernel)⟩
theorem kp_X0_refuse : Cond.initialized yX0_refuse.cls ∈ big ∧ (yX0_refuse.cls ≠ "java/lang/invoke/MethodHandle" ∧ yX0_refuse.cls ≠ "java/lang/invoke/VarHandle" ∧ (parseMethodDescriptor yX0_refuse.desc).map (fun d => d.parameters.length) = some 3) := ⟨mem_big (List.mem_of_getElem? (i := 121) (by decide +kernel)) (by decide +kernel), by decide +kernel⟩
theorem km_X0_96 : LkV RX0 96 yX0_refuse cX0_refuse 4 none 3 := ⟨⟨kd_X0_refuse, mem_big (List.mem_of_getElem? (i := 601) (by decide +kernel)) (by decide +kernel), kp_X0_refuse.1, kp_X0_refuse.2⟩, ks_X0_refuse⟩
theorem kd_X10_readPiece : Cond.code yX10_readPiece cX10_readPiece 2 none ∈ big := mem_big (List.mem_of_getElem? (i := 619) (by decide +kernel)) (by decide +kernel)
theorem ks_X10_readPiece : Cond.instanceMethod yX10_readPiece ∈ big ∧ Cond.selects yX10_readPiece.cls yX10_readPiece yX10_readPiece ∈ big := ⟨mem_big (List.mem_of_getElem? (i := 617) (by decide +kernel)) (by decide +kernel), mem_big (List.mem_of_getElem? (i := 618) (by decide +kernel)) (by decide +kernel)⟩
theorem kp_X10_readPiece : Cond.initialized yX10_readPiece.cls ∈ big ∧ (yX10_readPiece.cls ≠ "java/lang/invoke/MethodHandle" ∧ yX10_readPiece.cls ≠ "java/lang/invoke/VarHandle" ∧ (parseMethodDescriptor yX10_readPiece.desc).map (fun d => d.parameters.length) = some 0) := ⟨mem_big (List.mem_of_getElem? (i := 122) (by decide +kernel)) (by decide +kernel), by decide +kernel⟩
theorem km_X0_106 : LkV RX0 106 yX10_readPiece cX10_readPiece 2 none 0 := ⟨⟨kd_X10_readPiece, mem_big (List.mem_of_getElem? (i := 616) (by decide +kernel)) (by decide +kernel), kp_X10_readPiece.1, kp_X10_readPiece.2⟩, ks_X10_readPiece⟩
theorem kd_X0_isLabel : Cond.code yX0_isLabel cX0_isLabel 1 (some .boolean) ∈ big := mem_big (List.mem_of_getElem? (i := 655) (by decide +kernel)) (by decide +kernel)
theorem ks_X0_isLabel : Cond.instanceMethod yX0_isLabel ∈ big ∧ Cond.selects yX0_isLabel.cls yX0_isLabel yX0_isLabel ∈ big := ⟨mem_big (List.mem_of_getElem? (i := 654) (by decide +kernel)) (by decide +kernel), mem_big (List.mem_of_getElem? (i := 9) (by decide +kernel)) (by decide +kernel)⟩
theorem kp_X0_isLabel : Cond.initialized yX0_isLabel.cls ∈ big ∧ (yX0_isLabel.cls ≠ "java/lang/invoke/MethodHandle" ∧ yX0_isLabel.cls ≠ "java/lang/invoke/VarHandle" ∧ (parseMethodDescriptor yX0_isLabel.desc).map (fun d => d.parameters.length) = some 0) := ⟨mem_big (List.mem_of_getElem? (i := 121) (by decide +kernel)) (by decide +kernel), by decide +kernel⟩
theorem km_X0_109 : LkV RX0 109 yX0_isLabel cX0_isLabel 1 (some .boolean) 0 := ⟨⟨kd_X0_isLabel, mem_big (List.mem_of_getElem? (i := 652) (by decide +kernel)) (by decide +kernel), kp_X0_isLabel.1, kp_X0_isLabel.2⟩, ks_X0_isLabel⟩
theorem kd_X0_readLabel : Cond.code yX0_readLabel cX0_readLabel 4 (some .boolean) ∈ big := mem_big (List.mem_of_getElem? (i := 669) (by decide +kernel)) (by decide +kernel)
theorem ks_X0_readLabel : Cond.instanceMethod yX0_readLabel ∈ big ∧ Cond.selects yX0_readLabel.cls yX0_readLabel yX0_readLabel ∈ big := ⟨mem_big (List.mem_of_getElem? (i := 668) (by decide +kernel)) (by decide +kernel), mem_big (List.mem_of_getElem? (i := 11) (by decide +kernel)) (by decide +kernel)⟩
theorem kp_X0_readLabel : Cond.initialized yX0_readLabel.cls ∈ big ∧ (yX0_readLabel.cls ≠ "java/lang/invoke/MethodHandle" ∧ yX0_readLabel.cls ≠ "java/lang/invoke/VarHandle" ∧ (parseMethodDescriptor yX0_readLabel.desc).map (fun d => d.parameters.length) = some 0) := ⟨mem_big (List.mem_of_getElem? (i := 121) (by decide +kernel)) (by decide +kernel), by decide +kernel⟩
theorem km_X0_112 : LkV RX0 112 yX0_readLabel cX0_readLabel 4 (some .boolean) 0 := ⟨⟨kd_X0_readLabel, mem_big (List.mem_of_getElem? (i := 666) (by decide +kernel)) (by decide +kernel), kp_X0_readLabel.1, kp_X0_readLabel.2⟩, ks_X0_readLabel⟩
theorem kd_X0_instruction : Cond.code yX0_instruction cX0_instruction 4 (some .int) ∈ big := mem_big (List.mem_of_getElem? (i := 665) (by decide +kernel)) (by decide +kernel)
theorem ks_X0_instruction : Cond.instanceMethod yX0_instruction ∈ big ∧ Cond.selects yX0_instruction.cls yX0_instruction yX0_instruction ∈ big := ⟨mem_big (List.mem_of_getElem? (i := 664) (by decide +kernel)) (by decide +kernel), mem_big (List.mem_of_getElem? (i := 10) (by decide +kernel)) (by decide +kernel)⟩
theorem kp_X0_instruction : Cond.initialized yX0_instruction.cls ∈ big ∧ (yX0_instruction.cls ≠ "java/lang/invoke/MethodHandle" ∧ yX0_instruction.cls ≠ "java/lang/invoke/VarHandle" ∧ (parseMethodDescriptor yX0_instruction.desc).map (fun d => d.parameters.length) = some 1) := ⟨mem_big (List.mem_of_getElem? (i := 121) (by decide +kernel)) (by decide +kernel), by decide +kernel⟩
theorem km_X0_119 : LkV RX0 119 yX0_instruction cX0_instruction 4 (some .int) 1 := ⟨⟨kd_X0_instruction, mem_big (List.mem_of_getElem? (i := 662) (by decide +kernel)) (by decide +kernel), kp_X0_instruction.1, kp_X0_instruction.2⟩, ks_X0_instruction⟩
theorem kd_X0_refusePiece : Cond.code yX0_refusePiece cX0_refusePiece 1 (some .boolean) ∈ big := mem_big (List.mem_of_getElem? (i := 673) (by decide +kernel)) (by decide +kernel)
theorem ks_X0_refusePiece : Cond.instanceMethod yX0_refusePiece ∈ big ∧ Cond.selects yX0_refusePiece.cls yX0_refusePiece yX0_refusePiece ∈ big := ⟨mem_big (List.mem_of_getElem? (i := 672) (by decide +kernel)) (by decide +kernel), mem_big (List.mem_of_getElem? (i := 12) (by decide +kernel)) (by decide +kernel)⟩
theorem kp_X0_refusePiece : Cond.initialized yX0_refusePiece.cls ∈ big ∧ (yX0_refusePiece.cls ≠ "java/lang/invoke/MethodHandle" ∧ yX0_refusePiece.cls ≠ "java/lang/invoke/VarHandle" ∧ (parseMethodDescriptor yX0_refusePiece.desc).map (fun d => d.parameters.length) = some 0) := ⟨mem_big (List.mem_of_getElem? (i := 121) (by decide +kernel)) (by decide +kernel), by decide +kernel⟩
theorem km_X0_123 : LkV RX0 123 yX0_refusePiece cX0_refusePiece 1 (some .boolean) 0 := ⟨⟨kd_X0_refusePiece, mem_big (List.mem_of_getElem? (i := 670) (by decide +kernel)) (by decide +kernel), kp_X0_refusePiece.1, kp_X0_refusePiece.2⟩, ks_X0_refusePiece⟩
theorem kd_X0_readInstruction : Cond.code yX0_readInstruction cX0_readInstruction 5 (some .boolean) ∈ big := mem_big (List.mem_of_getElem? (i := 681) (by decide +kernel)) (by decide +kernel)
theorem ks_X0_readInstruction : Cond.instanceMethod yX0_readInstruction ∈ big ∧ Cond.selects yX0_readInstruction.cls yX0_readInstruction yX0_readInstruction ∈ big := ⟨mem_big (List.mem_of_getElem? (i := 680) (by decide +kernel)) (by decide +kernel), mem_big (List.mem_of_getElem? (i := 14) (by decide +kernel)) (by decide +kernel)⟩
theorem kp_X0_readInstruction : Cond.initialized yX0_readInstruction.cls ∈ big ∧ (yX0_readInstruction.cls ≠ "java/lang/invoke/MethodHandle" ∧ yX0_readInstruction.cls ≠ "java/lang/invoke/VarHandle" ∧ (parseMethodDescriptor yX0_readInstruction.desc).map (fun d => d.parameters.length) = some 1) := ⟨mem_big (List.mem_of_getElem? (i := 121) (by decide +kernel)) (by decide +kernel), by decide +kernel⟩
theorem km_X0_126 : LkV RX0 126 yX0_readInstruction cX0_readInstruction 5 (some .boolean) 1 := ⟨⟨kd_X0_readInstruction, mem_big (List.mem_of_getElem? (i := 678) (by decide +kernel)) (by decide +kernel), kp_X0_readInstruction.1, kp_X0_readInstruction.2⟩, ks_X0_readInstruction⟩
theorem kd_X0_findLabel : Cond.code yX0_findLabel cX0_findLabel 4 (some .int) ∈ big := mem_big (List.mem_of_getElem? (i := 677) (by decide +kernel)) (by decide +kernel)
theorem ks_X0_findLabel : Cond.instanceMethod yX0_findLabel ∈ big ∧ Cond.selects yX0_findLabel.cls yX0_findLabel yX0_findLabel ∈ big := ⟨mem_big (List.mem_of_getElem? (i := 676) (by decide +kernel)) (by decide +kernel), mem_big (List.mem_of_getElem? (i := 13) (by decide +kernel)) (by decide +kernel)⟩
theorem kp_X0_findLabel : Cond.initialized yX0_findLabel.cls ∈ big ∧ (yX0_findLabel.cls ≠ "java/lang/invoke/MethodHandle" ∧ yX0_findLabel.cls ≠ "java/lang/invoke/VarHandle" ∧ (parseMethodDescriptor yX0_findLabel.desc).map (fun d => d.parameters.length) = some 1) := ⟨mem_big (List.mem_of_getElem? (i := 121) (by decide +kernel)) (by decide +kernel), by decide +kernel⟩
theorem km_X0_130 : LkV RX0 130 yX0_findLabel cX0_findLabel 4 (some .int) 1 := ⟨⟨kd_X0_findLabel, mem_big (List.mem_of_getElem? (i := 674) (by decide +kernel)) (by decide +kernel), kp_X0_findLabel.1, kp_X0_findLabel.2⟩, ks_X0_findLabel⟩
theorem kd_X7_shapeOf : Cond.code yX7_shapeOf cX7_shapeOf 1 (some (.object "java/lang/String")) ∈ big := mem_big (List.mem_of_getElem? (i := 684) (by decide +kernel)) (by decide +kernel)
theorem ks_X7_shapeOf : Cond.static yX7_shapeOf ∈ big := mem_big (List.mem_of_getElem? (i := 683) (by decide +kernel)) (by decide +kernel)
theorem kp_X7_shapeOf : Cond.initialized yX7_shapeOf.cls ∈ big ∧ (yX7_shapeOf.cls ≠ "java/lang/invoke/MethodHandle" ∧ yX7_shapeOf.cls ≠ "java/lang/invoke/VarHandle" ∧ (parseMethodDescriptor yX7_shapeOf.desc).map (fun d => d.parameters.length) = some 1) := ⟨mem_big (List.mem_of_getElem? (i := 135) (by decide +kernel)) (by decide +kernel), by decide +kernel⟩
theorem km_X0_136 : LkS RX0 136 yX7_shapeOf cX7_shapeOf 1 (some (.object "java/lang/String")) 1 := ⟨⟨kd_X7_shapeOf, mem_big (List.mem_of_getElem? (i := 682) (by decide +kernel)) (by decide +kernel), kp_X7_shapeOf.1, kp_X7_shapeOf.2⟩, ks_X7_shapeOf⟩
theorem kd_X0_readOperand : Cond.code yX0_readOperand cX0_readOperand 6 (some .boolean) ∈ big := mem_big (List.mem_of_getElem? (i := 701) (by decide +kernel)) (by decide +kernel)
theorem ks_X0_readOperand : Cond.instanceMethod yX0_readOperand ∈ big ∧ Cond.selects yX0_readOperand.cls yX0_readOperand yX0_readOperand ∈ big := ⟨mem_big (List.mem_of_getElem? (i := 700) (by decide +kernel)) (by decide +kernel), mem_big (List.mem_of_getElem? (i := 15) (by decide +kernel)) (by decide +kernel)⟩
theorem kp_X0_readOperand : Cond.initialized yX0_readOperand.cls ∈ big ∧ (yX0_readOperand.cls ≠ "java/lang/invoke/MethodHandle" ∧ yX0_readOperand.cls ≠ "java/lang/invoke/VarHandle" ∧ (parseMethodDescriptor yX0_readOperand.desc).map (fun d => d.parameters.length) = some 3) := ⟨mem_big (List.mem_of_getElem? (i := 121) (by decide +kernel)) (by decide +kernel), by decide +kernel⟩
theorem km_X0_147 : LkV RX0 147 yX0_readOperand cX0_readOperand 6 (some .boolean) 3 := ⟨⟨kd_X0_readOperand, mem_big (List.mem_of_getElem? (i := 698) (by decide +kernel)) (by decide +kernel), kp_X0_readOperand.1, kp_X0_readOperand.2⟩, ks_X0_readOperand⟩
theorem kd_X0_registerOf : Cond.code yX0_registerOf cX0_registerOf 4 (some .int) ∈ big := mem_big (List.mem_of_getElem? (i := 658) (by decide +kernel)) (by decide +kernel)
theorem ks_X0_registerOf : Cond.static yX0_registerOf ∈ big := mem_big (List.mem_of_getElem? (i := 657) (by decide +kernel)) (by decide +kernel)
theorem kp_X0_registerOf : Cond.initialized yX0_registerOf.cls ∈ big ∧ (yX0_registerOf.cls ≠ "java/lang/invoke/MethodHandle" ∧ yX0_registerOf.cls ≠ "java/lang/invoke/VarHandle" ∧ (parseMethodDescriptor yX0_registerOf.desc).map (fun d => d.parameters.length) = some 1) := ⟨mem_big (List.mem_of_getElem? (i := 121) (by decide +kernel)) (by decide +kernel), by decide +kernel⟩
theorem km_X0_151 : LkS RX0 151 yX0_registerOf cX0_registerOf 4 (some .int) 1 := ⟨⟨kd_X0_registerOf, mem_big (List.mem_of_getElem? (i := 656) (by decide +kernel)) (by decide +kernel), kp_X0_registerOf.1, kp_X0_registerOf.2⟩, ks_X0_registerOf⟩
theorem kd_X8_setOperand : Cond.code yX8_setOperand cX8_setOperand 4 none ∈ big := mem_big (List.mem_of_getElem? (i := 705) (by decide +kernel)) (by decide +kernel)
theorem ks_X8_setOperand : Cond.instanceMethod yX8_setOperand ∈ big ∧ Cond.selects yX8_setOperand.cls yX8_setOperand yX8_setOperand ∈ big := ⟨mem_big (List.mem_of_getElem? (i := 703) (by decide +kernel)) (by decide +kernel), mem_big (List.mem_of_getElem? (i := 704) (by decide +kernel)) (by decide +kernel)⟩
theorem kp_X8_setOperand : Cond.initialized yX8_setOperand.cls ∈ big ∧ (yX8_setOperand.cls ≠ "java/lang/invoke/MethodHandle" ∧ yX8_setOperand.cls ≠ "java/lang/invoke/VarHandle" ∧ (parseMethodDescriptor yX8_setOperand.desc).map (fun d => d.parameters.length) = some 3) := ⟨mem_big (List.mem_of_getElem? (i := 127) (by decide +kernel)) (by decide +kernel), by decide +kernel⟩
theorem km_X0_154 : LkV RX0 154 yX8_setOperand cX8_setOperand 4 none 3 := ⟨⟨kd_X8_setOperand, mem_big (List.mem_of_getElem? (i := 702) (by decide +kernel)) (by decide +kernel), kp_X8_setOperand.1, kp_X8_setOperand.2⟩, ks_X8_setOperand⟩
theorem kd_X1_put : Cond.code yX1_put cX1_put 4 none ∈ big := mem_big (List.mem_of_getElem? (i := 739) (by decide +kernel)) (by decide +kernel)
theorem ks_X1_put : Cond.instanceMethod yX1_put ∈ big ∧ Cond.selects yX1_put.cls yX1_put yX1_put ∈ big := ⟨mem_big (List.mem_of_getElem? (i := 737) (by decide +kernel)) (by decide +kernel), mem_big (List.mem_of_getElem? (i := 738) (by decide +kernel)) (by decide +kernel)⟩
theorem kp_X1_put : Cond.initialized yX1_put.cls ∈ big ∧ (yX1_put.cls ≠ "java/lang/invoke/MethodHandle" ∧ yX1_put.cls ≠ "java/lang/invoke/VarHandle" ∧ (parseMethodDescriptor yX1_put.desc).map (fun d => d.parameters.length) = some 3) := ⟨mem_big (List.mem_of_getElem? (i := 133) (by decide +kernel)) (by decide +kernel), by decide +kernel⟩
theorem km_X1_21 : LkV RX1 21 yX1_put cX1_put 4 none 3 := ⟨⟨kd_X1_put, mem_big (List.mem_of_getElem? (i := 744) (by decide +kernel)) (by decide +kernel), kp_X1_put.1, kp_X1_put.2⟩, ks_X1_put⟩
theorem kd_X2_unitsOf : Cond.code yX2_unitsOf cX2_unitsOf 1 (some .int) ∈ big := mem_big (List.mem_of_getElem? (i := 967) (by decide +kernel)) (by decide +kernel)
theorem ks_X2_unitsOf : Cond.static yX2_unitsOf ∈ big := mem_big (List.mem_of_getElem? (i := 966) (by decide +kernel)) (by decide +kernel)
theorem kp_X2_unitsOf : Cond.initialized yX2_unitsOf.cls ∈ big ∧ (yX2_unitsOf.cls ≠ "java/lang/invoke/MethodHandle" ∧ yX2_unitsOf.cls ≠ "java/lang/invoke/VarHandle" ∧ (parseMethodDescriptor yX2_unitsOf.desc).map (fun d => d.parameters.length) = some 1) := ⟨mem_big (List.mem_of_getElem? (i := 130) (by decide +kernel)) (by decide +kernel), by decide +kernel⟩
theorem km_X2_46 : LkS RX2 46 yX2_unitsOf cX2_unitsOf 1 (some .int) 1 := ⟨⟨kd_X2_unitsOf, mem_big (List.mem_of_getElem? (i := 965) (by decide +kernel)) (by decide +kernel), kp_X2_unitsOf.1, kp_X2_unitsOf.2⟩, ks_X2_unitsOf⟩
theorem kd_X2_firstFree : Cond.code yX2_firstFree cX2_firstFree 4 (some .int) ∈ big := mem_big (List.mem_of_getElem? (i := 971) (by decide +kernel)) (by decide +kernel)
theorem ks_X2_firstFree : Cond.instanceMethod yX2_firstFree ∈ big ∧ Cond.selects yX2_firstFree.cls yX2_firstFree yX2_firstFree ∈ big := ⟨mem_big (List.mem_of_getElem? (i := 970) (by decide +kernel)) (by decide +kernel), mem_big (List.mem_of_getElem? (i := 42) (by decide +kernel)) (by decide +kernel)⟩
theorem kp_X2_firstFree : Cond.initialized yX2_firstFree.cls ∈ big ∧ (yX2_firstFree.cls ≠ "java/lang/invoke/MethodHandle" ∧ yX2_firstFree.cls ≠ "java/lang/invoke/VarHandle" ∧ (parseMethodDescriptor yX2_firstFree.desc).map (fun d => d.parameters.length) = some 1) := ⟨mem_big (List.mem_of_getElem? (i := 130) (by decide +kernel)) (by decide +kernel), by decide +kernel⟩
theorem km_X2_50 : LkV RX2 50 yX2_firstFree cX2_firstFree 4 (some .int) 1 := ⟨⟨kd_X2_firstFree, mem_big (List.mem_of_getElem? (i := 968) (by decide +kernel)) (by decide +kernel), kp_X2_firstFree.1, kp_X2_firstFree.2⟩, ks_X2_firstFree⟩
theorem kd_X2_own : Cond.code yX2_own cX2_own 6 none ∈ big := mem_big (List.mem_of_getElem? (i := 975) (by decide +kernel)) (by decide +kernel)
theorem ks_X2_own : Cond.instanceMethod yX2_own ∈ big ∧ Cond.selects yX2_own.cls yX2_own yX2_own ∈ big := ⟨mem_big (List.mem_of_getElem? (i := 974) (by decide +kernel)) (by decide +kernel), mem_big (List.mem_of_getElem? (i := 43) (by decide +kernel)) (by decide +kernel)⟩
theorem kp_X2_own : Cond.initialized yX2_own.cls ∈ big ∧ (yX2_own.cls ≠ "java/lang/invoke/MethodHandle" ∧ yX2_own.cls ≠ "java/lang/invoke/VarHandle" ∧ (parseMethodDescriptor yX2_own.desc).map (fun d => d.parameters.length) = some 2) := ⟨mem_big (List.mem_of_getElem? (i := 130) (by decide +kernel)) (by decide +kernel), by decide +kernel⟩
theorem km_X2_55 : LkV RX2 55 yX2_own cX2_own 6 none 2 := ⟨⟨kd_X2_own, mem_big (List.mem_of_getElem? (i := 972) (by decide +kernel)) (by decide +kernel), kp_X2_own.1, kp_X2_own.2⟩, ks_X2_own⟩
theorem kd_X2_ownerOf : Cond.code yX2_ownerOf cX2_ownerOf 2 (some .int) ∈ big := mem_big (List.mem_of_getElem? (i := 919) (by decide +kernel)) (by decide +kernel)
theorem ks_X2_ownerOf : Cond.instanceMethod yX2_ownerOf ∈ big ∧ Cond.selects yX2_ownerOf.cls yX2_ownerOf yX2_ownerOf ∈ big := ⟨mem_big (List.mem_of_getElem? (i := 917) (by decide +kernel)) (by decide +kernel), mem_big (List.mem_of_getElem? (i := 918) (by decide +kernel)) (by decide +kernel)⟩
theorem kp_X2_ownerOf : Cond.initialized yX2_ownerOf.cls ∈ big ∧ (yX2_ownerOf.cls ≠ "java/lang/invoke/MethodHandle" ∧ yX2_ownerOf.cls ≠ "java/lang/invoke/VarHandle" ∧ (parseMethodDescriptor yX2_ownerOf.desc).map (fun d => d.parameters.length) = some 1) := ⟨mem_big (List.mem_of_getElem? (i := 130) (by decide +kernel)) (by decide +kernel), by decide +kernel⟩
theorem km_X2_59 : LkV RX2 59 yX2_ownerOf cX2_ownerOf 2 (some .int) 1 := ⟨⟨kd_X2_ownerOf, mem_big (List.mem_of_getElem? (i := 997) (by decide +kernel)) (by decide +kernel), kp_X2_ownerOf.1, kp_X2_ownerOf.2⟩, ks_X2_ownerOf⟩
theorem kd_X2_leadsTo : Cond.code yX2_leadsTo cX2_leadsTo 4 (some .int) ∈ big := mem_big (List.mem_of_getElem? (i := 996) (by decide +kernel)) (by decide +kernel)
theorem ks_X2_leadsTo : Cond.instanceMethod yX2_leadsTo ∈ big ∧ Cond.selects yX2_leadsTo.cls yX2_leadsTo yX2_leadsTo ∈ big := ⟨mem_big (List.mem_of_getElem? (i := 994) (by decide +kernel)) (by decide +kernel), mem_big (List.mem_of_getElem? (i := 995) (by decide +kernel)) (by decide +kernel)⟩
theorem kp_X2_leadsTo : Cond.initialized yX2_leadsTo.cls ∈ big ∧ (yX2_leadsTo.cls ≠ "java/lang/invoke/MethodHandle" ∧ yX2_leadsTo.cls ≠ "java/lang/invoke/VarHandle" ∧ (parseMethodDescriptor yX2_leadsTo.desc).map (fun d => d.parameters.length) = some 1) := ⟨mem_big (List.mem_of_getElem? (i := 130) (by decide +kernel)) (by decide +kernel), by decide +kernel⟩
theorem km_X2_62 : LkV RX2 62 yX2_leadsTo cX2_leadsTo 4 (some .int) 1 := ⟨⟨kd_X2_leadsTo, mem_big (List.mem_of_getElem? (i := 993) (by decide +kernel)) (by decide +kernel), kp_X2_leadsTo.1, kp_X2_leadsTo.2⟩, ks_X2_leadsTo⟩
theorem kd_X3_spread : Cond.code yX3_spread cX3_spread 7 none ∈ big := mem_big (List.mem_of_getElem? (i := 1140) (by decide +kernel)) (by decide +kernel)
theorem ks_X3_spread : Cond.instanceMethod yX3_spread ∈ big ∧ Cond.selects yX3_spread.cls yX3_spread yX3_spread ∈ big := ⟨mem_big (List.mem_of_getElem? (i := 1139) (by decide +kernel)) (by decide +kernel), mem_big (List.mem_of_getElem? (i := 55) (by decide +kernel)) (by decide +kernel)⟩
theorem kp_X3_spread : Cond.initialized yX3_spread.cls ∈ big ∧ (yX3_spread.cls ≠ "java/lang/invoke/MethodHandle" ∧ yX3_spread.cls ≠ "java/lang/invoke/VarHandle" ∧ (parseMethodDescriptor yX3_spread.desc).map (fun d => d.parameters.length) = some 4) := ⟨mem_big (List.mem_of_getElem? (i := 131) (by decide +kernel)) (by decide +kernel), by decide +kernel⟩
theorem km_X3_22 : LkV RX3 22 yX3_spread cX3_spread 7 none 4 := ⟨⟨kd_X3_spread, mem_big (List.mem_of_getElem? (i := 1137) (by decide +kernel)) (by decide +kernel), kp_X3_spread.1, kp_X3_spread.2⟩, ks_X3_spread⟩
theorem kd_X2_isInUse : Cond.code yX2_isInUse cX2_isInUse 2 (some .boolean) ∈ big := mem_big (List.mem_of_getElem? (i := 1132) (by decide +kernel)) (by decide +kernel)
theorem ks_X2_isInUse : Cond.instanceMethod yX2_isInUse ∈ big ∧ Cond.selects yX2_isInUse.cls yX2_isInUse yX2_isInUse ∈ big := ⟨mem_big (List.mem_of_getElem? (i := 1130) (by decide +kernel)) (by decide +kernel), mem_big (List.mem_of_getElem? (i := 1131) (by decide +kernel)) (by decide +kernel)⟩
theorem kp_X2_isInUse : Cond.initialized yX2_isInUse.cls ∈ big ∧ (yX2_isInUse.cls ≠ "java/lang/invoke/MethodHandle" ∧ yX2_isInUse.cls ≠ "java/lang/invoke/VarHandle" ∧ (parseMethodDescriptor yX2_isInUse.desc).map (fun d => d.parameters.length) = some 1) := ⟨mem_big (List.mem_of_getElem? (i := 130) (by decide +kernel)) (by decide +kernel), by decide +kernel⟩
theorem km_X3_29 : LkV RX3 29 yX2_isInUse cX2_isInUse 2 (some .boolean) 1 := ⟨⟨kd_X2_isInUse, mem_big (List.mem_of_getElem? (i := 1159) (by decide +kernel)) (by decide +kernel), kp_X2_isInUse.1, kp_X2_isInUse.2⟩, ks_X2_isInUse⟩
theorem kd_X3_followWords : Cond.code yX3_followWords cX3_followWords 8 none ∈ big := mem_big (List.mem_of_getElem? (i := 1149) (by decide +kernel)) (by decide +kernel)
theorem ks_X3_followWords : Cond.instanceMethod yX3_followWords ∈ big ∧ Cond.selects yX3_followWords.cls yX3_followWords yX3_followWords ∈ big := ⟨mem_big (List.mem_of_getElem? (i := 1148) (by decide +kernel)) (by decide +kernel), mem_big (List.mem_of_getElem? (i := 57) (by decide +kernel)) (by decide +kernel)⟩
theorem kp_X3_followWords : Cond.initialized yX3_followWords.cls ∈ big ∧ (yX3_followWords.cls ≠ "java/lang/invoke/MethodHandle" ∧ yX3_followWords.cls ≠ "java/lang/invoke/VarHandle" ∧ (parseMethodDescriptor yX3_followWords.desc).map (fun d => d.parameters.length) = some 6) := ⟨mem_big (List.mem_of_getElem? (i := 131) (by decide +kernel)) (by decide +kernel), by decide +kernel⟩
theorem km_X3_39 : LkV RX3 39 yX3_followWords cX3_followWords 8 none 6 := ⟨⟨kd_X3_followWords, mem_big (List.mem_of_getElem? (i := 1146) (by decide +kernel)) (by decide +kernel), kp_X3_followWords.1, kp_X3_followWords.2⟩, ks_X3_followWords⟩
theorem kd_X3_follow : Cond.code yX3_follow cX3_follow 6 none ∈ big := mem_big (List.mem_of_getElem? (i := 1144) (by decide +kernel)) (by decide +kernel)
theorem ks_X3_follow : Cond.instanceMethod yX3_follow ∈ big ∧ Cond.selects yX3_follow.cls yX3_follow yX3_follow ∈ big := ⟨mem_big (List.mem_of_getElem? (i := 1143) (by decide +kernel)) (by decide +kernel), mem_big (List.mem_of_getElem? (i := 56) (by decide +kernel)) (by decide +kernel)⟩
theorem kp_X3_follow : Cond.initialized yX3_follow.cls ∈ big ∧ (yX3_follow.cls ≠ "java/lang/invoke/MethodHandle" ∧ yX3_follow.cls ≠ "java/lang/invoke/VarHandle" ∧ (parseMethodDescriptor yX3_follow.desc).map (fun d => d.parameters.length) = some 4) := ⟨mem_big (List.mem_of_getElem? (i := 131) (by decide +kernel)) (by decide +kernel), by decide +kernel⟩
theorem km_X3_51 : LkV RX3 51 yX3_follow cX3_follow 6 none 4 := ⟨⟨kd_X3_follow, mem_big (List.mem_of_getElem? (i := 1141) (by decide +kernel)) (by decide +kernel), kp_X3_follow.1, kp_X3_follow.2⟩, ks_X3_follow⟩
theorem kd_X6_isSetWord : Cond.code yX6_isSetWord cX6_isSetWord 2 (some .boolean) ∈ big := mem_big (List.mem_of_getElem? (i := 1153) (by decide +kernel)) (by decide +kernel)
theorem ks_X6_isSetWord : Cond.instanceMethod yX6_isSetWord ∈ big ∧ Cond.selects yX6_isSetWord.cls yX6_isSetWord yX6_isSetWord ∈ big := ⟨mem_big (List.mem_of_getElem? (i := 1151) (by decide +kernel)) (by decide +kernel), mem_big (List.mem_of_getElem? (i := 1152) (by decide +kernel)) (by decide +kernel)⟩
theorem kp_X6_isSetWord : Cond.initialized yX6_isSetWord.cls ∈ big ∧ (yX6_isSetWord.cls ≠ "java/lang/invoke/MethodHandle" ∧ yX6_isSetWord.cls ≠ "java/lang/invoke/VarHandle" ∧ (parseMethodDescriptor yX6_isSetWord.desc).map (fun d => d.parameters.length) = some 1) := ⟨mem_big (List.mem_of_getElem? (i := 129) (by decide +kernel)) (by decide +kernel), by decide +kernel⟩
theorem km_X3_57 : LkV RX3 57 yX6_isSetWord cX6_isSetWord 2 (some .boolean) 1 := ⟨⟨kd_X6_isSetWord, mem_big (List.mem_of_getElem? (i := 1150) (by decide +kernel)) (by decide +kernel), kp_X6_isSetWord.1, kp_X6_isSetWord.2⟩, ks_X6_isSetWord⟩
theorem kd_X6_wordAt : Cond.code yX6_wordAt cX6_wordAt 2 (some .int) ∈ big := mem_big (List.mem_of_getElem? (i := 1158) (by decide +kernel)) (by decide +kernel)
theorem ks_X6_wordAt : Cond.instanceMethod yX6_wordAt ∈ big ∧ Cond.selects yX6_wordAt.cls yX6_wordAt yX6_wordAt ∈ big := ⟨mem_big (List.mem_of_getElem? (i := 1156) (by decide +kernel)) (by decide +kernel), mem_big (List.mem_of_getElem? (i := 1157) (by decide +kernel)) (by decide +kernel)⟩
theorem kp_X6_wordAt : Cond.initialized yX6_wordAt.cls ∈ big ∧ (yX6_wordAt.cls ≠ "java/lang/invoke/MethodHandle" ∧ yX6_wordAt.cls ≠ "java/lang/invoke/VarHandle" ∧ (parseMethodDescriptor yX6_wordAt.desc).map (fun d => d.parameters.length) = some 1) := ⟨mem_big (List.mem_of_getElem? (i := 129) (by decide +kernel)) (by decide +kernel), by decide +kernel⟩
theorem km_X3_60 : LkV RX3 60 yX6_wordAt cX6_wordAt 2 (some .int) 1 := ⟨⟨kd_X6_wordAt, mem_big (List.mem_of_getElem? (i := 1155) (by decide +kernel)) (by decide +kernel), kp_X6_wordAt.1, kp_X6_wordAt.2⟩, ks_X6_wordAt⟩
theorem km_X3_64 : LkV RX3 64 yX2_leadsTo cX2_leadsTo 4 (some .int) 1 := ⟨⟨kd_X2_leadsTo, mem_big (List.mem_of_getElem? (i := 1145) (by decide +kernel)) (by decide +kernel), kp_X2_leadsTo.1, kp_X2_leadsTo.2⟩, ks_X2_leadsTo⟩
theorem kd_X4_isSuppressed : Cond.code yX4_isSuppressed cX4_isSuppressed 5 (some .boolean) ∈ big := mem_big (List.mem_of_getElem? (i := 823) (by decide +kernel)) (by decide +kernel)
theorem ks_X4_isSuppressed : Cond.instanceMethod yX4_isSuppressed ∈ big ∧ Cond.selects yX4_isSuppressed.cls yX4_isSuppressed yX4_isSuppressed ∈ big := ⟨mem_big (List.mem_of_getElem? (i := 822) (by decide +kernel)) (by decide +kernel), mem_big (List.mem_of_getElem? (i := 25) (by decide +kernel)) (by decide +kernel)⟩
theorem kp_X4_isSuppressed : Cond.initialized yX4_isSuppressed.cls ∈ big ∧ (yX4_isSuppressed.cls ≠ "java/lang/invoke/MethodHandle" ∧ yX4_isSuppressed.cls ≠ "java/lang/invoke/VarHandle" ∧ (parseMethodDescriptor yX4_isSuppressed.desc).map (fun d => d.parameters.length) = some 2) := ⟨mem_big (List.mem_of_getElem? (i := 132) (by decide +kernel)) (by decide +kernel), by decide +kernel⟩
theorem km_X4_46 : LkV RX4 46 yX4_isSuppressed cX4_isSuppressed 5 (some .boolean) 2 := ⟨⟨kd_X4_isSuppressed, mem_big (List.mem_of_getElem? (i := 820) (by decide +kernel)) (by decide +kernel), kp_X4_isSuppressed.1, kp_X4_isSuppressed.2⟩, ks_X4_isSuppressed⟩
theorem kd_X4_find : Cond.code yX4_find cX4_find 5 (some .int) ∈ big := mem_big (List.mem_of_getElem? (i := 827) (by decide +kernel)) (by decide +kernel)
theorem ks_X4_find : Cond.instanceMethod yX4_find ∈ big ∧ Cond.selects yX4_find.cls yX4_find yX4_find ∈ big := ⟨mem_big (List.mem_of_getElem? (i := 826) (by decide +kernel)) (by decide +kernel), mem_big (List.mem_of_getElem? (i := 26) (by decide +kernel)) (by decide +kernel)⟩
theorem kp_X4_find : Cond.initialized yX4_find.cls ∈ big ∧ (yX4_find.cls ≠ "java/lang/invoke/MethodHandle" ∧ yX4_find.cls ≠ "java/lang/invoke/VarHandle" ∧ (parseMethodDescriptor yX4_find.desc).map (fun d => d.parameters.length) = some 3) := ⟨mem_big (List.mem_of_getElem? (i := 132) (by decide +kernel)) (by decide +kernel), by decide +kernel⟩
theorem km_X4_50 : LkV RX4 50 yX4_find cX4_find 5 (some .int) 3 := ⟨⟨kd_X4_find, mem_big (List.mem_of_getElem? (i := 824) (by decide +kernel)) (by decide +kernel), kp_X4_find.1, kp_X4_find.2⟩, ks_X4_find⟩
theorem kd_X6_clear : Cond.code yX6_clear cX6_clear 4 none ∈ big := mem_big (List.mem_of_getElem? (i := 721) (by decide +kernel)) (by decide +kernel)
theorem ks_X6_clear : Cond.instanceMethod yX6_clear ∈ big ∧ Cond.selects yX6_clear.cls yX6_clear yX6_clear ∈ big := ⟨mem_big (List.mem_of_getElem? (i := 719) (by decide +kernel)) (by decide +kernel), mem_big (List.mem_of_getElem? (i := 720) (by decide +kernel)) (by decide +kernel)⟩
theorem kp_X6_clear : Cond.initialized yX6_clear.cls ∈ big ∧ (yX6_clear.cls ≠ "java/lang/invoke/MethodHandle" ∧ yX6_clear.cls ≠ "java/lang/invoke/VarHandle" ∧ (parseMethodDescriptor yX6_clear.desc).map (fun d => d.parameters.length) = some 1) := ⟨mem_big (List.mem_of_getElem? (i := 129) (by decide +kernel)) (by decide +kernel), by decide +kernel⟩
theorem km_X5_68 : LkV RX5 68 yX6_clear cX6_clear 4 none 1 := ⟨⟨kd_X6_clear, mem_big (List.mem_of_getElem? (i := 718) (by decide +kernel)) (by decide +kernel), kp_X6_clear.1, kp_X6_clear.2⟩, ks_X6_clear⟩
theorem kd_X2_clear : Cond.code yX2_clear cX2_clear 2 none ∈ big := mem_big (List.mem_of_getElem? (i := 725) (by decide +kernel)) (by decide +kernel)
theorem ks_X2_clear : Cond.instanceMethod yX2_clear ∈ big ∧ Cond.selects yX2_clear.cls yX2_clear yX2_clear ∈ big := ⟨mem_big (List.mem_of_getElem? (i := 723) (by decide +kernel)) (by decide +kernel), mem_big (List.mem_of_getElem? (i := 724) (by decide +kernel)) (by decide +kernel)⟩
theorem kp_X2_clear : Cond.initialized yX2_clear.cls ∈ big ∧ (yX2_clear.cls ≠ "java/lang/invoke/MethodHandle" ∧ yX2_clear.cls ≠ "java/lang/invoke/VarHandle" ∧ (parseMethodDescriptor yX2_clear.desc).map (fun d => d.parameters.length) = some 0) := ⟨mem_big (List.mem_of_getElem? (i := 130) (by decide +kernel)) (by decide +kernel), by decide +kernel⟩
theorem km_X5_72 : LkV RX5 72 yX2_clear cX2_clear 2 none 0 := ⟨⟨kd_X2_clear, mem_big (List.mem_of_getElem? (i := 722) (by decide +kernel)) (by decide +kernel), kp_X2_clear.1, kp_X2_clear.2⟩, ks_X2_clear⟩
theorem kd_X4_clear : Cond.code yX4_clear cX4_clear 1 none ∈ big := mem_big (List.mem_of_getElem? (i := 729) (by decide +kernel)) (by decide +kernel)
theorem ks_X4_clear : Cond.instanceMethod yX4_clear ∈ big ∧ Cond.selects yX4_clear.cls yX4_clear yX4_clear ∈ big := ⟨mem_big (List.mem_of_getElem? (i := 727) (by decide +kernel)) (by decide +kernel), mem_big (List.mem_of_getElem? (i := 728) (by decide +kernel)) (by decide +kernel)⟩
theorem kp_X4_clear : Cond.initialized yX4_clear.cls ∈ big ∧ (yX4_clear.cls ≠ "java/lang/invoke/MethodHandle" ∧ yX4_clear.cls ≠ "java/lang/invoke/VarHandle" ∧ (parseMethodDescriptor yX4_clear.desc).map (fun d => d.parameters.length) = some 0) := ⟨mem_big (List.mem_of_getElem? (i := 132) (by decide +kernel)) (by decide +kernel), by decide +kernel⟩
theorem km_X5_74 : LkV RX5 74 yX4_clear cX4_clear 1 none 0 := ⟨⟨kd_X4_clear, mem_big (List.mem_of_getElem? (i := 726) (by decide +kernel)) (by decide +kernel), kp_X4_clear.1, kp_X4_clear.2⟩, ks_X4_clear⟩
theorem kd_X6_nextFilling : Cond.code yX6_nextFilling cX6_nextFilling 1 (some .int) ∈ big := mem_big (List.mem_of_getElem? (i := 733) (by decide +kernel)) (by decide +kernel)
theorem ks_X6_nextFilling : Cond.instanceMethod yX6_nextFilling ∈ big ∧ Cond.selects yX6_nextFilling.cls yX6_nextFilling yX6_nextFilling ∈ big := ⟨mem_big (List.mem_of_getElem? (i := 731) (by decide +kernel)) (by decide +kernel), mem_big (List.mem_of_getElem? (i := 732) (by decide +kernel)) (by decide +kernel)⟩
theorem kp_X6_nextFilling : Cond.initialized yX6_nextFilling.cls ∈ big ∧ (yX6_nextFilling.cls ≠ "java/lang/invoke/MethodHandle" ∧ yX6_nextFilling.cls ≠ "java/lang/invoke/VarHandle" ∧ (parseMethodDescriptor yX6_nextFilling.desc).map (fun d => d.parameters.length) = some 0) := ⟨mem_big (List.mem_of_getElem? (i := 129) (by decide +kernel)) (by decide +kernel), by decide +kernel⟩
theorem km_X5_75 : LkV RX5 75 yX6_nextFilling cX6_nextFilling 1 (some .int) 0 := ⟨⟨kd_X6_nextFilling, mem_big (List.mem_of_getElem? (i := 730) (by decide +kernel)) (by decide +kernel), kp_X6_nextFilling.1, kp_X6_nextFilling.2⟩, ks_X6_nextFilling⟩
theorem km_X5_79 : LkV RX5 79 yX1_put cX1_put 4 none 3 := ⟨⟨kd_X1_put, mem_big (List.mem_of_getElem? (i := 736) (by decide +kernel)) (by decide +kernel), kp_X1_put.1, kp_X1_put.2⟩, ks_X1_put⟩
theorem kd_X1_putSet : Cond.code yX1_putSet cX1_putSet 2 none ∈ big := mem_big (List.mem_of_getElem? (i := 743) (by decide +kernel)) (by decide +kernel)
theorem ks_X1_putSet : Cond.instanceMethod yX1_putSet ∈ big ∧ Cond.selects yX1_putSet.cls yX1_putSet yX1_putSet ∈ big := ⟨mem_big (List.mem_of_getElem? (i := 741) (by decide +kernel)) (by decide +kernel), mem_big (List.mem_of_getElem? (i := 742) (by decide +kernel)) (by decide +kernel)⟩
theorem kp_X1_putSet : Cond.initialized yX1_putSet.cls ∈ big ∧ (yX1_putSet.cls ≠ "java/lang/invoke/MethodHandle" ∧ yX1_putSet.cls ≠ "java/lang/invoke/VarHandle" ∧ (parseMethodDescriptor yX1_putSet.desc).map (fun d => d.parameters.length) = some 1) := ⟨mem_big (List.mem_of_getElem? (i := 133) (by decide +kernel)) (by decide +kernel), by decide +kernel⟩
theorem km_X5_83 : LkV RX5 83 yX1_putSet cX1_putSet 2 none 1 := ⟨⟨kd_X1_putSet, mem_big (List.mem_of_getElem? (i := 740) (by decide +kernel)) (by decide +kernel), kp_X1_putSet.1, kp_X1_putSet.2⟩, ks_X1_putSet⟩
theorem kd_X5_goTo : Cond.code yX5_goTo cX5_goTo 2 none ∈ big := mem_big (List.mem_of_getElem? (i := 748) (by decide +kernel)) (by decide +kernel)
theorem ks_X5_goTo : Cond.instanceMethod yX5_goTo ∈ big ∧ Cond.selects yX5_goTo.cls yX5_goTo yX5_goTo ∈ big := ⟨mem_big (List.mem_of_getElem? (i := 747) (by decide +kernel)) (by decide +kernel), mem_big (List.mem_of_getElem? (i := 17) (by decide +kernel)) (by decide +kernel)⟩
theorem kp_X5_goTo : Cond.initialized yX5_goTo.cls ∈ big ∧ (yX5_goTo.cls ≠ "java/lang/invoke/MethodHandle" ∧ yX5_goTo.cls ≠ "java/lang/invoke/VarHandle" ∧ (parseMethodDescriptor yX5_goTo.desc).map (fun d => d.parameters.length) = some 1) := ⟨mem_big (List.mem_of_getElem? (i := 128) (by decide +kernel)) (by decide +kernel), by decide +kernel⟩
theorem km_X5_105 : LkV RX5 105 yX5_goTo cX5_goTo 2 none 1 := ⟨⟨kd_X5_goTo, mem_big (List.mem_of_getElem? (i := 745) (by decide +kernel)) (by decide +kernel), kp_X5_goTo.1, kp_X5_goTo.2⟩, ks_X5_goTo⟩
theorem kd_X5_performPlain : Cond.code yX5_performPlain cX5_performPlain 2 none ∈ big := mem_big (List.mem_of_getElem? (i := 787) (by decide +kernel)) (by decide +kernel)
theorem ks_X5_performPlain : Cond.instanceMethod yX5_performPlain ∈ big ∧ Cond.selects yX5_performPlain.cls yX5_performPlain yX5_performPlain ∈ big := ⟨mem_big (List.mem_of_getElem? (i := 786) (by decide +kernel)) (by decide +kernel), mem_big (List.mem_of_getElem? (i := 18) (by decide +kernel)) (by decide +kernel)⟩
theorem kp_X5_performPlain : Cond.initialized yX5_performPlain.cls ∈ big ∧ (yX5_performPlain.cls ≠ "java/lang/invoke/MethodHandle" ∧ yX5_performPlain.cls ≠ "java/lang/invoke/VarHandle" ∧ (parseMethodDescriptor yX5_performPlain.desc).map (fun d => d.parameters.length) = some 1) := ⟨mem_big (List.mem_of_getElem? (i := 128) (by decide +kernel)) (by decide +kernel), by decide +kernel⟩
theorem km_X5_124 : LkV RX5 124 yX5_performPlain cX5_performPlain 2 none 1 := ⟨⟨kd_X5_performPlain, mem_big (List.mem_of_getElem? (i := 784) (by decide +kernel)) (by decide +kernel), kp_X5_performPlain.1, kp_X5_performPlain.2⟩, ks_X5_performPlain⟩
theorem kd_X5_performWide : Cond.code yX5_performWide cX5_performWide 2 none ∈ big := mem_big (List.mem_of_getElem? (i := 944) (by decide +kernel)) (by decide +kernel)
theorem ks_X5_performWide : Cond.instanceMethod yX5_performWide ∈ big ∧ Cond.selects yX5_performWide.cls yX5_performWide yX5_performWide ∈ big := ⟨mem_big (List.mem_of_getElem? (i := 943) (by decide +kernel)) (by decide +kernel), mem_big (List.mem_of_getElem? (i := 37) (by decide +kernel)) (by decide +kernel)⟩
theorem kp_X5_performWide : Cond.initialized yX5_performWide.cls ∈ big ∧ (yX5_performWide.cls ≠ "java/lang/invoke/MethodHandle" ∧ yX5_performWide.cls ≠ "java/lang/invoke/VarHandle" ∧ (parseMethodDescriptor yX5_performWide.desc).map (fun d => d.parameters.length) = some 1) := ⟨mem_big (List.mem_of_getElem? (i := 128) (by decide +kernel)) (by decide +kernel), by decide +kernel⟩
theorem km_X5_127 : LkV RX5 127 yX5_performWide cX5_performWide 2 none 1 := ⟨⟨kd_X5_performWide, mem_big (List.mem_of_getElem? (i := 941) (by decide +kernel)) (by decide +kernel), kp_X5_performWide.1, kp_X5_performWide.2⟩, ks_X5_performWide⟩
theorem kd_X4_isQuiet : Cond.code yX4_isQuiet cX4_isQuiet 1 (some .boolean) ∈ big := mem_big (List.mem_of_getElem? (i := 1084) (by decide +kernel)) (by decide +kernel)
theorem ks_X4_isQuiet : Cond.instanceMethod yX4_isQuiet ∈ big ∧ Cond.selects yX4_isQuiet.cls yX4_isQuiet yX4_isQuiet ∈ big := ⟨mem_big (List.mem_of_getElem? (i := 1082) (by decide +kernel)) (by decide +kernel), mem_big (List.mem_of_getElem? (i := 1083) (by decide +kernel)) (by decide +kernel)⟩
theorem kp_X4_isQuiet : Cond.initialized yX4_isQuiet.cls ∈ big ∧ (yX4_isQuiet.cls ≠ "java/lang/invoke/MethodHandle" ∧ yX4_isQuiet.cls ≠ "java/lang/invoke/VarHandle" ∧ (parseMethodDescriptor yX4_isQuiet.desc).map (fun d => d.parameters.length) = some 0) := ⟨mem_big (List.mem_of_getElem? (i := 132) (by decide +kernel)) (by decide +kernel), by decide +kernel⟩
theorem km_X5_142 : LkV RX5 142 yX4_isQuiet cX4_isQuiet 1 (some .boolean) 0 := ⟨⟨kd_X4_isQuiet, mem_big (List.mem_of_getElem? (i := 1081) (by decide +kernel)) (by decide +kernel), kp_X4_isQuiet.1, kp_X4_isQuiet.2⟩, ks_X4_isQuiet⟩
theorem kd_X2_tell : Cond.code yX2_tell cX2_tell 3 (some .int) ∈ big := mem_big (List.mem_of_getElem? (i := 1128) (by decide +kernel)) (by decide +kernel)
theorem ks_X2_tell : Cond.instanceMethod yX2_tell ∈ big ∧ Cond.selects yX2_tell.cls yX2_tell yX2_tell ∈ big := ⟨mem_big (List.mem_of_getElem? (i := 1126) (by decide +kernel)) (by decide +kernel), mem_big (List.mem_of_getElem? (i := 1127) (by decide +kernel)) (by decide +kernel)⟩
theorem kp_X2_tell : Cond.initialized yX2_tell.cls ∈ big ∧ (yX2_tell.cls ≠ "java/lang/invoke/MethodHandle" ∧ yX2_tell.cls ≠ "java/lang/invoke/VarHandle" ∧ (parseMethodDescriptor yX2_tell.desc).map (fun d => d.parameters.length) = some 2) := ⟨mem_big (List.mem_of_getElem? (i := 130) (by decide +kernel)) (by decide +kernel), by decide +kernel⟩
theorem km_X5_146 : LkV RX5 146 yX2_tell cX2_tell 3 (some .int) 2 := ⟨⟨kd_X2_tell, mem_big (List.mem_of_getElem? (i := 1125) (by decide +kernel)) (by decide +kernel), kp_X2_tell.1, kp_X2_tell.2⟩, ks_X2_tell⟩
theorem km_X5_150 : LkV RX5 150 yX2_isInUse cX2_isInUse 2 (some .boolean) 1 := ⟨⟨kd_X2_isInUse, mem_big (List.mem_of_getElem? (i := 1129) (by decide +kernel)) (by decide +kernel), kp_X2_isInUse.1, kp_X2_isInUse.2⟩, ks_X2_isInUse⟩
theorem kd_X3_verdict : Cond.code yX3_verdict cX3_verdict 6 (some .int) ∈ big := mem_big (List.mem_of_getElem? (i := 1136) (by decide +kernel)) (by decide +kernel)
theorem ks_X3_verdict : Cond.instanceMethod yX3_verdict ∈ big ∧ Cond.selects yX3_verdict.cls yX3_verdict yX3_verdict ∈ big := ⟨mem_big (List.mem_of_getElem? (i := 1134) (by decide +kernel)) (by decide +kernel), mem_big (List.mem_of_getElem? (i := 1135) (by decide +kernel)) (by decide +kernel)⟩
theorem kp_X3_verdict : Cond.initialized yX3_verdict.cls ∈ big ∧ (yX3_verdict.cls ≠ "java/lang/invoke/MethodHandle" ∧ yX3_verdict.cls ≠ "java/lang/invoke/VarHandle" ∧ (parseMethodDescriptor yX3_verdict.desc).map (fun d => d.parameters.length) = some 4) := ⟨mem_big (List.mem_of_getElem? (i := 131) (by decide +kernel)) (by decide +kernel), by decide +kernel⟩
theorem km_X5_154 : LkV RX5 154 yX3_verdict cX3_verdict 6 (some .int) 4 := ⟨⟨kd_X3_verdict, mem_big (List.mem_of_getElem? (i := 1133) (by decide +kernel)) (by decide +kernel), kp_X3_verdict.1, kp_X3_verdict.2⟩, ks_X3_verdict⟩
theorem kd_X5_compute : Cond.code yX5_compute cX5_compute 4 none ∈ big := mem_big (List.mem_of_getElem? (i := 791) (by decide +kernel)) (by decide +kernel)
theorem ks_X5_compute : Cond.instanceMethod yX5_compute ∈ big ∧ Cond.selects yX5_compute.cls yX5_compute yX5_compute ∈ big := ⟨mem_big (List.mem_of_getElem? (i := 790) (by decide +kernel)) (by decide +kernel), mem_big (List.mem_of_getElem? (i := 19) (by decide +kernel)) (by decide +kernel)⟩
theorem kp_X5_compute : Cond.initialized yX5_compute.cls ∈ big ∧ (yX5_compute.cls ≠ "java/lang/invoke/MethodHandle" ∧ yX5_compute.cls ≠ "java/lang/invoke/VarHandle" ∧ (parseMethodDescriptor yX5_compute.desc).map (fun d => d.parameters.length) = some 1) := ⟨mem_big (List.mem_of_getElem? (i := 128) (by decide +kernel)) (by decide +kernel), by decide +kernel⟩
theorem km_X5_158 : LkV RX5 158 yX5_compute cX5_compute 4 none 1 := ⟨⟨kd_X5_compute, mem_big (List.mem_of_getElem? (i := 788) (by decide +kernel)) (by decide +kernel), kp_X5_compute.1, kp_X5_compute.2⟩, ks_X5_compute⟩
theorem kd_X5_load : Cond.code yX5_load cX5_load 4 none ∈ big := mem_big (List.mem_of_getElem? (i := 900) (by decide +kernel)) (by decide +kernel)
theorem ks_X5_load : Cond.instanceMethod yX5_load ∈ big ∧ Cond.selects yX5_load.cls yX5_load yX5_load ∈ big := ⟨mem_big (List.mem_of_getElem? (i := 899) (by decide +kernel)) (by decide +kernel), mem_big (List.mem_of_getElem? (i := 31) (by decide +kernel)) (by decide +kernel)⟩
theorem kp_X5_load : Cond.initialized yX5_load.cls ∈ big ∧ (yX5_load.cls ≠ "java/lang/invoke/MethodHandle" ∧ yX5_load.cls ≠ "java/lang/invoke/VarHandle" ∧ (parseMethodDescriptor yX5_load.desc).map (fun d => d.parameters.length) = some 1) := ⟨mem_big (List.mem_of_getElem? (i := 128) (by decide +kernel)) (by decide +kernel), by decide +kernel⟩
theorem km_X5_161 : LkV RX5 161 yX5_load cX5_load 4 none 1 := ⟨⟨kd_X5_load, mem_big (List.mem_of_getElem? (i := 897) (by decide +kernel)) (by decide +kernel), kp_X5_load.1, kp_X5_load.2⟩, ks_X5_load⟩
theorem kd_X5_store : Cond.code yX5_store cX5_store 4 none ∈ big := mem_big (List.mem_of_getElem? (i := 928) (by decide +kernel)) (by decide +kernel)
theorem ks_X5_store : Cond.instanceMethod yX5_store ∈ big ∧ Cond.selects yX5_store.cls yX5_store yX5_store ∈ big := ⟨mem_big (List.mem_of_getElem? (i := 927) (by decide +kernel)) (by decide +kernel), mem_big (List.mem_of_getElem? (i := 34) (by decide +kernel)) (by decide +kernel)⟩
theorem kp_X5_store : Cond.initialized yX5_store.cls ∈ big ∧ (yX5_store.cls ≠ "java/lang/invoke/MethodHandle" ∧ yX5_store.cls ≠ "java/lang/invoke/VarHandle" ∧ (parseMethodDescriptor yX5_store.desc).map (fun d => d.parameters.length) = some 1) := ⟨mem_big (List.mem_of_getElem? (i := 128) (by decide +kernel)) (by decide +kernel), by decide +kernel⟩
theorem km_X5_164 : LkV RX5 164 yX5_store cX5_store 4 none 1 := ⟨⟨kd_X5_store, mem_big (List.mem_of_getElem? (i := 925) (by decide +kernel)) (by decide +kernel), kp_X5_store.1, kp_X5_store.2⟩, ks_X5_store⟩
theorem kd_X5_branch : Cond.code yX5_branch cX5_branch 5 none ∈ big := mem_big (List.mem_of_getElem? (i := 936) (by decide +kernel)) (by decide +kernel)
theorem ks_X5_branch : Cond.instanceMethod yX5_branch ∈ big ∧ Cond.selects yX5_branch.cls yX5_branch yX5_branch ∈ big := ⟨mem_big (List.mem_of_getElem? (i := 935) (by decide +kernel)) (by decide +kernel), mem_big (List.mem_of_getElem? (i := 35) (by decide +kernel)) (by decide +kernel)⟩
theorem kp_X5_branch : Cond.initialized yX5_branch.cls ∈ big ∧ (yX5_branch.cls ≠ "java/lang/invoke/MethodHandle" ∧ yX5_branch.cls ≠ "java/lang/invoke/VarHandle" ∧ (parseMethodDescriptor yX5_branch.desc).map (fun d => d.parameters.length) = some 1) := ⟨mem_big (List.mem_of_getElem? (i := 128) (by decide +kernel)) (by decide +kernel), by decide +kernel⟩
theorem km_X5_167 : LkV RX5 167 yX5_branch cX5_branch 5 none 1 := ⟨⟨kd_X5_branch, mem_big (List.mem_of_getElem? (i := 933) (by decide +kernel)) (by decide +kernel), kp_X5_branch.1, kp_X5_branch.2⟩, ks_X5_branch⟩
theorem kd_X5_jump : Cond.code yX5_jump cX5_jump 2 none ∈ big := mem_big (List.mem_of_getElem? (i := 940) (by decide +kernel)) (by decide +kernel)
theorem ks_X5_jump : Cond.instanceMethod yX5_jump ∈ big ∧ Cond.selects yX5_jump.cls yX5_jump yX5_jump ∈ big := ⟨mem_big (List.mem_of_getElem? (i := 939) (by decide +kernel)) (by decide +kernel), mem_big (List.mem_of_getElem? (i := 36) (by decide +kernel)) (by decide +kernel)⟩
theorem kp_X5_jump : Cond.initialized yX5_jump.cls ∈ big ∧ (yX5_jump.cls ≠ "java/lang/invoke/MethodHandle" ∧ yX5_jump.cls ≠ "java/lang/invoke/VarHandle" ∧ (parseMethodDescriptor yX5_jump.desc).map (fun d => d.parameters.length) = some 1) := ⟨mem_big (List.mem_of_getElem? (i := 128) (by decide +kernel)) (by decide +kernel), by decide +kernel⟩
theorem km_X5_170 : LkV RX5 170 yX5_jump cX5_jump 2 none 1 := ⟨⟨kd_X5_jump, mem_big (List.mem_of_getElem? (i := 937) (by decide +kernel)) (by decide +kernel), kp_X5_jump.1, kp_X5_jump.2⟩, ks_X5_jump⟩
theorem kd_X5_push : Cond.code yX5_push cX5_push 3 none ∈ big := mem_big (List.mem_of_getElem? (i := 948) (by decide +kernel)) (by decide +kernel)
theorem ks_X5_push : Cond.instanceMethod yX5_push ∈ big ∧ Cond.selects yX5_push.cls yX5_push yX5_push ∈ big := ⟨mem_big (List.mem_of_getElem? (i := 947) (by decide +kernel)) (by decide +kernel), mem_big (List.mem_of_getElem? (i := 38) (by decide +kernel)) (by decide +kernel)⟩
theorem kp_X5_push : Cond.initialized yX5_push.cls ∈ big ∧ (yX5_push.cls ≠ "java/lang/invoke/MethodHandle" ∧ yX5_push.cls ≠ "java/lang/invoke/VarHandle" ∧ (parseMethodDescriptor yX5_push.desc).map (fun d => d.parameters.length) = some 0) := ⟨mem_big (List.mem_of_getElem? (i := 128) (by decide +kernel)) (by decide +kernel), by decide +kernel⟩
theorem km_X5_173 : LkV RX5 173 yX5_push cX5_push 3 none 0 := ⟨⟨kd_X5_push, mem_big (List.mem_of_getElem? (i := 945) (by decide +kernel)) (by decide +kernel), kp_X5_push.1, kp_X5_push.2⟩, ks_X5_push⟩
theorem kd_X5_pop : Cond.code yX5_pop cX5_pop 2 none ∈ big := mem_big (List.mem_of_getElem? (i := 952) (by decide +kernel)) (by decide +kernel)
theorem ks_X5_pop : Cond.instanceMethod yX5_pop ∈ big ∧ Cond.selects yX5_pop.cls yX5_pop yX5_pop ∈ big := ⟨mem_big (List.mem_of_getElem? (i := 951) (by decide +kernel)) (by decide +kernel), mem_big (List.mem_of_getElem? (i := 39) (by decide +kernel)) (by decide +kernel)⟩
theorem kp_X5_pop : Cond.initialized yX5_pop.cls ∈ big ∧ (yX5_pop.cls ≠ "java/lang/invoke/MethodHandle" ∧ yX5_pop.cls ≠ "java/lang/invoke/VarHandle" ∧ (parseMethodDescriptor yX5_pop.desc).map (fun d => d.parameters.length) = some 0) := ⟨mem_big (List.mem_of_getElem? (i := 128) (by decide +kernel)) (by decide +kernel), by decide +kernel⟩
theorem km_X5_176 : LkV RX5 176 yX5_pop cX5_pop 2 none 0 := ⟨⟨kd_X5_pop, mem_big (List.mem_of_getElem? (i := 949) (by decide +kernel)) (by decide +kernel), kp_X5_pop.1, kp_X5_pop.2⟩, ks_X5_pop⟩
theorem kd_X5_allot : Cond.code yX5_allot cX5_allot 2 none ∈ big := mem_big (List.mem_of_getElem? (i := 956) (by decide +kernel)) (by decide +kernel)
theorem ks_X5_allot : Cond.instanceMethod yX5_allot ∈ big ∧ Cond.selects yX5_allot.cls yX5_allot yX5_allot ∈ big := ⟨mem_big (List.mem_of_getElem? (i := 955) (by decide +kernel)) (by decide +kernel), mem_big (List.mem_of_getElem? (i := 40) (by decide +kernel)) (by decide +kernel)⟩
theorem kp_X5_allot : Cond.initialized yX5_allot.cls ∈ big ∧ (yX5_allot.cls ≠ "java/lang/invoke/MethodHandle" ∧ yX5_allot.cls ≠ "java/lang/invoke/VarHandle" ∧ (parseMethodDescriptor yX5_allot.desc).map (fun d => d.parameters.length) = some 1) := ⟨mem_big (List.mem_of_getElem? (i := 128) (by decide +kernel)) (by decide +kernel), by decide +kernel⟩
theorem km_X5_179 : LkV RX5 179 yX5_allot cX5_allot 2 none 1 := ⟨⟨kd_X5_allot, mem_big (List.mem_of_getElem? (i := 953) (by decide +kernel)) (by decide +kernel), kp_X5_allot.1, kp_X5_allot.2⟩, ks_X5_allot⟩
theorem kd_X5_grow : Cond.code yX5_grow cX5_grow 4 none ∈ big := mem_big (List.mem_of_getElem? (i := 984) (by decide +kernel)) (by decide +kernel)
theorem ks_X5_grow : Cond.instanceMethod yX5_grow ∈ big ∧ Cond.selects yX5_grow.cls yX5_grow yX5_grow ∈ big := ⟨mem_big (List.mem_of_getElem? (i := 983) (by decide +kernel)) (by decide +kernel), mem_big (List.mem_of_getElem? (i := 44) (by decide +kernel)) (by decide +kernel)⟩
theorem kp_X5_grow : Cond.initialized yX5_grow.cls ∈ big ∧ (yX5_grow.cls ≠ "java/lang/invoke/MethodHandle" ∧ yX5_grow.cls ≠ "java/lang/invoke/VarHandle" ∧ (parseMethodDescriptor yX5_grow.desc).map (fun d => d.parameters.length) = some 0) := ⟨mem_big (List.mem_of_getElem? (i := 128) (by decide +kernel)) (by decide +kernel), by decide +kernel⟩
theorem km_X5_182 : LkV RX5 182 yX5_grow cX5_grow 4 none 0 := ⟨⟨kd_X5_grow, mem_big (List.mem_of_getElem? (i := 981) (by decide +kernel)) (by decide +kernel), kp_X5_grow.1, kp_X5_grow.2⟩, ks_X5_grow⟩
theorem kd_X5_giveBack : Cond.code yX5_giveBack cX5_giveBack 2 none ∈ big := mem_big (List.mem_of_getElem? (i := 1024) (by decide +kernel)) (by decide +kernel)
theorem ks_X5_giveBack : Cond.instanceMethod yX5_giveBack ∈ big ∧ Cond.selects yX5_giveBack.cls yX5_giveBack yX5_giveBack ∈ big := ⟨mem_big (List.mem_of_getElem? (i := 1023) (by decide +kernel)) (by decide +kernel), mem_big (List.mem_of_getElem? (i := 47) (by decide +kernel)) (by decide +kernel)⟩
theorem kp_X5_giveBack : Cond.initialized yX5_giveBack.cls ∈ big ∧ (yX5_giveBack.cls ≠ "java/lang/invoke/MethodHandle" ∧ yX5_giveBack.cls ≠ "java/lang/invoke/VarHandle" ∧ (parseMethodDescriptor yX5_giveBack.desc).map (fun d => d.parameters.length) = some 0) := ⟨mem_big (List.mem_of_getElem? (i := 128) (by decide +kernel)) (by decide +kernel), by decide +kernel⟩
theorem km_X5_185 : LkV RX5 185 yX5_giveBack cX5_giveBack 2 none 0 := ⟨⟨kd_X5_giveBack, mem_big (List.mem_of_getElem? (i := 1021) (by decide +kernel)) (by decide +kernel), kp_X5_giveBack.1, kp_X5_giveBack.2⟩, ks_X5_giveBack⟩
theorem kd_X5_copyBytes : Cond.code yX5_copyBytes cX5_copyBytes 2 none ∈ big := mem_big (List.mem_of_getElem? (i := 1028) (by decide +kernel)) (by decide +kernel)
theorem ks_X5_copyBytes : Cond.instanceMethod yX5_copyBytes ∈ big ∧ Cond.selects yX5_copyBytes.cls yX5_copyBytes yX5_copyBytes ∈ big := ⟨mem_big (List.mem_of_getElem? (i := 1027) (by decide +kernel)) (by decide +kernel), mem_big (List.mem_of_getElem? (i := 48) (by decide +kernel)) (by decide +kernel)⟩
theorem kp_X5_copyBytes : Cond.initialized yX5_copyBytes.cls ∈ big ∧ (yX5_copyBytes.cls ≠ "java/lang/invoke/MethodHandle" ∧ yX5_copyBytes.cls ≠ "java/lang/invoke/VarHandle" ∧ (parseMethodDescriptor yX5_copyBytes.desc).map (fun d => d.parameters.length) = some 0) := ⟨mem_big (List.mem_of_getElem? (i := 128) (by decide +kernel)) (by decide +kernel), by decide +kernel⟩
theorem km_X5_188 : LkV RX5 188 yX5_copyBytes cX5_copyBytes 2 none 0 := ⟨⟨kd_X5_copyBytes, mem_big (List.mem_of_getElem? (i := 1025) (by decide +kernel)) (by decide +kernel), kp_X5_copyBytes.1, kp_X5_copyBytes.2⟩, ks_X5_copyBytes⟩
theorem kd_X5_fillBytes : Cond.code yX5_fillBytes cX5_fillBytes 2 none ∈ big := mem_big (List.mem_of_getElem? (i := 1035) (by decide +kernel)) (by decide +kernel)
theorem ks_X5_fillBytes : Cond.instanceMethod yX5_fillBytes ∈ big ∧ Cond.selects yX5_fillBytes.cls yX5_fillBytes yX5_fillBytes ∈ big := ⟨mem_big (List.mem_of_getElem? (i := 1034) (by decide +kernel)) (by decide +kernel), mem_big (List.mem_of_getElem? (i := 49) (by decide +kernel)) (by decide +kernel)⟩
theorem kp_X5_fillBytes : Cond.initialized yX5_fillBytes.cls ∈ big ∧ (yX5_fillBytes.cls ≠ "java/lang/invoke/MethodHandle" ∧ yX5_fillBytes.cls ≠ "java/lang/invoke/VarHandle" ∧ (parseMethodDescriptor yX5_fillBytes.desc).map (fun d => d.parameters.length) = some 0) := ⟨mem_big (List.mem_of_getElem? (i := 128) (by decide +kernel)) (by decide +kernel), by decide +kernel⟩
theorem km_X5_191 : LkV RX5 191 yX5_fillBytes cX5_fillBytes 2 none 0 := ⟨⟨kd_X5_fillBytes, mem_big (List.mem_of_getElem? (i := 1032) (by decide +kernel)) (by decide +kernel), kp_X5_fillBytes.1, kp_X5_fillBytes.2⟩, ks_X5_fillBytes⟩
theorem kd_X5_readInput : Cond.code yX5_readInput cX5_readInput 2 none ∈ big := mem_big (List.mem_of_getElem? (i := 1043) (by decide +kernel)) (by decide +kernel)
theorem ks_X5_readInput : Cond.instanceMethod yX5_readInput ∈ big ∧ Cond.selects yX5_readInput.cls yX5_readInput yX5_readInput ∈ big := ⟨mem_big (List.mem_of_getElem? (i := 1042) (by decide +kernel)) (by decide +kernel), mem_big (List.mem_of_getElem? (i := 50) (by decide +kernel)) (by decide +kernel)⟩
theorem kp_X5_readInput : Cond.initialized yX5_readInput.cls ∈ big ∧ (yX5_readInput.cls ≠ "java/lang/invoke/MethodHandle" ∧ yX5_readInput.cls ≠ "java/lang/invoke/VarHandle" ∧ (parseMethodDescriptor yX5_readInput.desc).map (fun d => d.parameters.length) = some 0) := ⟨mem_big (List.mem_of_getElem? (i := 128) (by decide +kernel)) (by decide +kernel), by decide +kernel⟩
theorem km_X5_194 : LkV RX5 194 yX5_readInput cX5_readInput 2 none 0 := ⟨⟨kd_X5_readInput, mem_big (List.mem_of_getElem? (i := 1040) (by decide +kernel)) (by decide +kernel), kp_X5_readInput.1, kp_X5_readInput.2⟩, ks_X5_readInput⟩
theorem kd_X5_putOut : Cond.code yX5_putOut cX5_putOut 2 none ∈ big := mem_big (List.mem_of_getElem? (i := 1047) (by decide +kernel)) (by decide +kernel)
theorem ks_X5_putOut : Cond.instanceMethod yX5_putOut ∈ big ∧ Cond.selects yX5_putOut.cls yX5_putOut yX5_putOut ∈ big := ⟨mem_big (List.mem_of_getElem? (i := 1046) (by decide +kernel)) (by decide +kernel), mem_big (List.mem_of_getElem? (i := 51) (by decide +kernel)) (by decide +kernel)⟩
theorem kp_X5_putOut : Cond.initialized yX5_putOut.cls ∈ big ∧ (yX5_putOut.cls ≠ "java/lang/invoke/MethodHandle" ∧ yX5_putOut.cls ≠ "java/lang/invoke/VarHandle" ∧ (parseMethodDescriptor yX5_putOut.desc).map (fun d => d.parameters.length) = some 0) := ⟨mem_big (List.mem_of_getElem? (i := 128) (by decide +kernel)) (by decide +kernel), by decide +kernel⟩
theorem km_X5_197 : LkV RX5 197 yX5_putOut cX5_putOut 2 none 0 := ⟨⟨kd_X5_putOut, mem_big (List.mem_of_getElem? (i := 1044) (by decide +kernel)) (by decide +kernel), kp_X5_putOut.1, kp_X5_putOut.2⟩, ks_X5_putOut⟩
theorem kd_X5_markBytes : Cond.code yX5_markBytes cX5_markBytes 2 none ∈ big := mem_big (List.mem_of_getElem? (i := 1051) (by decide +kernel)) (by decide +kernel)
theorem ks_X5_markBytes : Cond.instanceMethod yX5_markBytes ∈ big ∧ Cond.selects yX5_markBytes.cls yX5_markBytes yX5_markBytes ∈ big := ⟨mem_big (List.mem_of_getElem? (i := 1050) (by decide +kernel)) (by decide +kernel), mem_big (List.mem_of_getElem? (i := 52) (by decide +kernel)) (by decide +kernel)⟩
theorem kp_X5_markBytes : Cond.initialized yX5_markBytes.cls ∈ big ∧ (yX5_markBytes.cls ≠ "java/lang/invoke/MethodHandle" ∧ yX5_markBytes.cls ≠ "java/lang/invoke/VarHandle" ∧ (parseMethodDescriptor yX5_markBytes.desc).map (fun d => d.parameters.length) = some 0) := ⟨mem_big (List.mem_of_getElem? (i := 128) (by decide +kernel)) (by decide +kernel), by decide +kernel⟩
theorem km_X5_200 : LkV RX5 200 yX5_markBytes cX5_markBytes 2 none 0 := ⟨⟨kd_X5_markBytes, mem_big (List.mem_of_getElem? (i := 1048) (by decide +kernel)) (by decide +kernel), kp_X5_markBytes.1, kp_X5_markBytes.2⟩, ks_X5_markBytes⟩
theorem kd_X5_look : Cond.code yX5_look cX5_look 1 none ∈ big := mem_big (List.mem_of_getElem? (i := 1068) (by decide +kernel)) (by decide +kernel)
theorem ks_X5_look : Cond.instanceMethod yX5_look ∈ big ∧ Cond.selects yX5_look.cls yX5_look yX5_look ∈ big := ⟨mem_big (List.mem_of_getElem? (i := 1067) (by decide +kernel)) (by decide +kernel), mem_big (List.mem_of_getElem? (i := 54) (by decide +kernel)) (by decide +kernel)⟩
theorem kp_X5_look : Cond.initialized yX5_look.cls ∈ big ∧ (yX5_look.cls ≠ "java/lang/invoke/MethodHandle" ∧ yX5_look.cls ≠ "java/lang/invoke/VarHandle" ∧ (parseMethodDescriptor yX5_look.desc).map (fun d => d.parameters.length) = some 0) := ⟨mem_big (List.mem_of_getElem? (i := 128) (by decide +kernel)) (by decide +kernel), by decide +kernel⟩
theorem km_X5_203 : LkV RX5 203 yX5_look cX5_look 1 none 0 := ⟨⟨kd_X5_look, mem_big (List.mem_of_getElem? (i := 1065) (by decide +kernel)) (by decide +kernel), kp_X5_look.1, kp_X5_look.2⟩, ks_X5_look⟩
theorem kd_X5_operand : Cond.code yX5_operand cX5_operand 2 (some .int) ∈ big := mem_big (List.mem_of_getElem? (i := 795) (by decide +kernel)) (by decide +kernel)
theorem ks_X5_operand : Cond.instanceMethod yX5_operand ∈ big ∧ Cond.selects yX5_operand.cls yX5_operand yX5_operand ∈ big := ⟨mem_big (List.mem_of_getElem? (i := 794) (by decide +kernel)) (by decide +kernel), mem_big (List.mem_of_getElem? (i := 20) (by decide +kernel)) (by decide +kernel)⟩
theorem kp_X5_operand : Cond.initialized yX5_operand.cls ∈ big ∧ (yX5_operand.cls ≠ "java/lang/invoke/MethodHandle" ∧ yX5_operand.cls ≠ "java/lang/invoke/VarHandle" ∧ (parseMethodDescriptor yX5_operand.desc).map (fun d => d.parameters.length) = some 1) := ⟨mem_big (List.mem_of_getElem? (i := 128) (by decide +kernel)) (by decide +kernel), by decide +kernel⟩
theorem km_X5_209 : LkV RX5 209 yX5_operand cX5_operand 2 (some .int) 1 := ⟨⟨kd_X5_operand, mem_big (List.mem_of_getElem? (i := 792) (by decide +kernel)) (by decide +kernel), kp_X5_operand.1, kp_X5_operand.2⟩, ks_X5_operand⟩
theorem kd_X5_registerOf : Cond.code yX5_registerOf cX5_registerOf 2 (some (.object "ShadeBench$Datum")) ∈ big := mem_big (List.mem_of_getElem? (i := 803) (by decide +kernel)) (by decide +kernel)
theorem ks_X5_registerOf : Cond.instanceMethod yX5_registerOf ∈ big ∧ Cond.selects yX5_registerOf.cls yX5_registerOf yX5_registerOf ∈ big := ⟨mem_big (List.mem_of_getElem? (i := 802) (by decide +kernel)) (by decide +kernel), mem_big (List.mem_of_getElem? (i := 22) (by decide +kernel)) (by decide +kernel)⟩
theorem kp_X5_registerOf : Cond.initialized yX5_registerOf.cls ∈ big ∧ (yX5_registerOf.cls ≠ "java/lang/invoke/MethodHandle" ∧ yX5_registerOf.cls ≠ "java/lang/invoke/VarHandle" ∧ (parseMethodDescriptor yX5_registerOf.desc).map (fun d => d.parameters.length) = some 1) := ⟨mem_big (List.mem_of_getElem? (i := 128) (by decide +kernel)) (by decide +kernel), by decide +kernel⟩
theorem km_X5_213 : LkV RX5 213 yX5_registerOf cX5_registerOf 2 (some (.object "ShadeBench$Datum")) 1 := ⟨⟨kd_X5_registerOf, mem_big (List.mem_of_getElem? (i := 800) (by decide +kernel)) (by decide +kernel), kp_X5_registerOf.1, kp_X5_registerOf.2⟩, ks_X5_registerOf⟩
theorem kd_X1_take : Cond.code yX1_take cX1_take 2 none ∈ big := mem_big (List.mem_of_getElem? (i := 807) (by decide +kernel)) (by decide +kernel)
theorem ks_X1_take : Cond.instanceMethod yX1_take ∈ big ∧ Cond.selects yX1_take.cls yX1_take yX1_take ∈ big := ⟨mem_big (List.mem_of_getElem? (i := 805) (by decide +kernel)) (by decide +kernel), mem_big (List.mem_of_getElem? (i := 806) (by decide +kernel)) (by decide +kernel)⟩
theorem kp_X1_take : Cond.initialized yX1_take.cls ∈ big ∧ (yX1_take.cls ≠ "java/lang/invoke/MethodHandle" ∧ yX1_take.cls ≠ "java/lang/invoke/VarHandle" ∧ (parseMethodDescriptor yX1_take.desc).map (fun d => d.parameters.length) = some 1) := ⟨mem_big (List.mem_of_getElem? (i := 133) (by decide +kernel)) (by decide +kernel), by decide +kernel⟩
theorem km_X5_217 : LkV RX5 217 yX1_take cX1_take 2 none 1 := ⟨⟨kd_X1_take, mem_big (List.mem_of_getElem? (i := 804) (by decide +kernel)) (by decide +kernel), kp_X1_take.1, kp_X1_take.2⟩, ks_X1_take⟩
theorem kd_X5_takeRegister : Cond.code yX5_takeRegister cX5_takeRegister 3 none ∈ big := mem_big (List.mem_of_getElem? (i := 799) (by decide +kernel)) (by decide +kernel)
theorem ks_X5_takeRegister : Cond.instanceMethod yX5_takeRegister ∈ big ∧ Cond.selects yX5_takeRegister.cls yX5_takeRegister yX5_takeRegister ∈ big := ⟨mem_big (List.mem_of_getElem? (i := 798) (by decide +kernel)) (by decide +kernel), mem_big (List.mem_of_getElem? (i := 21) (by decide +kernel)) (by decide +kernel)⟩
theorem kp_X5_takeRegister : Cond.initialized yX5_takeRegister.cls ∈ big ∧ (yX5_takeRegister.cls ≠ "java/lang/invoke/MethodHandle" ∧ yX5_takeRegister.cls ≠ "java/lang/invoke/VarHandle" ∧ (parseMethodDescriptor yX5_takeRegister.desc).map (fun d => d.parameters.length) = some 2) := ⟨mem_big (List.mem_of_getElem? (i := 128) (by decide +kernel)) (by decide +kernel), by decide +kernel⟩
theorem km_X5_225 : LkV RX5 225 yX5_takeRegister cX5_takeRegister 3 none 2 := ⟨⟨kd_X5_takeRegister, mem_big (List.mem_of_getElem? (i := 796) (by decide +kernel)) (by decide +kernel), kp_X5_takeRegister.1, kp_X5_takeRegister.2⟩, ks_X5_takeRegister⟩
theorem kd_X5_trap : Cond.code yX5_trap cX5_trap 2 none ∈ big := mem_big (List.mem_of_getElem? (i := 831) (by decide +kernel)) (by decide +kernel)
theorem ks_X5_trap : Cond.instanceMethod yX5_trap ∈ big ∧ Cond.selects yX5_trap.cls yX5_trap yX5_trap ∈ big := ⟨mem_big (List.mem_of_getElem? (i := 830) (by decide +kernel)) (by decide +kernel), mem_big (List.mem_of_getElem? (i := 27) (by decide +kernel)) (by decide +kernel)⟩
theorem kp_X5_trap : Cond.initialized yX5_trap.cls ∈ big ∧ (yX5_trap.cls ≠ "java/lang/invoke/MethodHandle" ∧ yX5_trap.cls ≠ "java/lang/invoke/VarHandle" ∧ (parseMethodDescriptor yX5_trap.desc).map (fun d => d.parameters.length) = some 1) := ⟨mem_big (List.mem_of_getElem? (i := 128) (by decide +kernel)) (by decide +kernel), by decide +kernel⟩
theorem km_X5_229 : LkV RX5 229 yX5_trap cX5_trap 2 none 1 := ⟨⟨kd_X5_trap, mem_big (List.mem_of_getElem? (i := 828) (by decide +kernel)) (by decide +kernel), kp_X5_trap.1, kp_X5_trap.2⟩, ks_X5_trap⟩
theorem kd_X6_moveStack : Cond.code yX6_moveStack cX6_moveStack 7 none ∈ big := mem_big (List.mem_of_getElem? (i := 880) (by decide +kernel)) (by decide +kernel)
theorem ks_X6_moveStack : Cond.instanceMethod yX6_moveStack ∈ big ∧ Cond.selects yX6_moveStack.cls yX6_moveStack yX6_moveStack ∈ big := ⟨mem_big (List.mem_of_getElem? (i := 878) (by decide +kernel)) (by decide +kernel), mem_big (List.mem_of_getElem? (i := 879) (by decide +kernel)) (by decide +kernel)⟩
theorem kp_X6_moveStack : Cond.initialized yX6_moveStack.cls ∈ big ∧ (yX6_moveStack.cls ≠ "java/lang/invoke/MethodHandle" ∧ yX6_moveStack.cls ≠ "java/lang/invoke/VarHandle" ∧ (parseMethodDescriptor yX6_moveStack.desc).map (fun d => d.parameters.length) = some 3) := ⟨mem_big (List.mem_of_getElem? (i := 129) (by decide +kernel)) (by decide +kernel), by decide +kernel⟩
theorem km_X5_235 : LkV RX5 235 yX6_moveStack cX6_moveStack 7 none 3 := ⟨⟨kd_X6_moveStack, mem_big (List.mem_of_getElem? (i := 877) (by decide +kernel)) (by decide +kernel), kp_X6_moveStack.1, kp_X6_moveStack.2⟩, ks_X6_moveStack⟩
theorem kd_X5_addToMark : Cond.code yX5_addToMark cX5_addToMark 2 none ∈ big := mem_big (List.mem_of_getElem? (i := 835) (by decide +kernel)) (by decide +kernel)
theorem ks_X5_addToMark : Cond.instanceMethod yX5_addToMark ∈ big ∧ Cond.selects yX5_addToMark.cls yX5_addToMark yX5_addToMark ∈ big := ⟨mem_big (List.mem_of_getElem? (i := 834) (by decide +kernel)) (by decide +kernel), mem_big (List.mem_of_getElem? (i := 28) (by decide +kernel)) (by decide +kernel)⟩
theorem kp_X5_addToMark : Cond.initialized yX5_addToMark.cls ∈ big ∧ (yX5_addToMark.cls ≠ "java/lang/invoke/MethodHandle" ∧ yX5_addToMark.cls ≠ "java/lang/invoke/VarHandle" ∧ (parseMethodDescriptor yX5_addToMark.desc).map (fun d => d.parameters.length) = some 1) := ⟨mem_big (List.mem_of_getElem? (i := 128) (by decide +kernel)) (by decide +kernel), by decide +kernel⟩
theorem km_X5_238 : LkV RX5 238 yX5_addToMark cX5_addToMark 2 none 1 := ⟨⟨kd_X5_addToMark, mem_big (List.mem_of_getElem? (i := 832) (by decide +kernel)) (by decide +kernel), kp_X5_addToMark.1, kp_X5_addToMark.2⟩, ks_X5_addToMark⟩
theorem kd_X4_note : Cond.code yX4_note cX4_note 5 none ∈ big := mem_big (List.mem_of_getElem? (i := 819) (by decide +kernel)) (by decide +kernel)
theorem ks_X4_note : Cond.instanceMethod yX4_note ∈ big ∧ Cond.selects yX4_note.cls yX4_note yX4_note ∈ big := ⟨mem_big (List.mem_of_getElem? (i := 817) (by decide +kernel)) (by decide +kernel), mem_big (List.mem_of_getElem? (i := 818) (by decide +kernel)) (by decide +kernel)⟩
theorem kp_X4_note : Cond.initialized yX4_note.cls ∈ big ∧ (yX4_note.cls ≠ "java/lang/invoke/MethodHandle" ∧ yX4_note.cls ≠ "java/lang/invoke/VarHandle" ∧ (parseMethodDescriptor yX4_note.desc).map (fun d => d.parameters.length) = some 3) := ⟨mem_big (List.mem_of_getElem? (i := 132) (by decide +kernel)) (by decide +kernel), by decide +kernel⟩
theorem km_X5_247 : LkV RX5 247 yX4_note cX4_note 5 none 3 := ⟨⟨kd_X4_note, mem_big (List.mem_of_getElem? (i := 816) (by decide +kernel)) (by decide +kernel), kp_X4_note.1, kp_X4_note.2⟩, ks_X4_note⟩
theorem kd_X6_firstClosed : Cond.code yX6_firstClosed cX6_firstClosed 4 (some .int) ∈ big := mem_big (List.mem_of_getElem? (i := 915) (by decide +kernel)) (by decide +kernel)
theorem ks_X6_firstClosed : Cond.instanceMethod yX6_firstClosed ∈ big ∧ Cond.selects yX6_firstClosed.cls yX6_firstClosed yX6_firstClosed ∈ big := ⟨mem_big (List.mem_of_getElem? (i := 913) (by decide +kernel)) (by decide +kernel), mem_big (List.mem_of_getElem? (i := 914) (by decide +kernel)) (by decide +kernel)⟩
theorem kp_X6_firstClosed : Cond.initialized yX6_firstClosed.cls ∈ big ∧ (yX6_firstClosed.cls ≠ "java/lang/invoke/MethodHandle" ∧ yX6_firstClosed.cls ≠ "java/lang/invoke/VarHandle" ∧ (parseMethodDescriptor yX6_firstClosed.desc).map (fun d => d.parameters.length) = some 2) := ⟨mem_big (List.mem_of_getElem? (i := 129) (by decide +kernel)) (by decide +kernel), by decide +kernel⟩
theorem km_X5_250 : LkV RX5 250 yX6_firstClosed cX6_firstClosed 4 (some .int) 2 := ⟨⟨kd_X6_firstClosed, mem_big (List.mem_of_getElem? (i := 912) (by decide +kernel)) (by decide +kernel), kp_X6_firstClosed.1, kp_X6_firstClosed.2⟩, ks_X6_firstClosed⟩
theorem km_X5_253 : LkV RX5 253 yX2_ownerOf cX2_ownerOf 2 (some .int) 1 := ⟨⟨kd_X2_ownerOf, mem_big (List.mem_of_getElem? (i := 916) (by decide +kernel)) (by decide +kernel), kp_X2_ownerOf.1, kp_X2_ownerOf.2⟩, ks_X2_ownerOf⟩
theorem kd_X5_takeEither : Cond.code yX5_takeEither cX5_takeEither 3 none ∈ big := mem_big (List.mem_of_getElem? (i := 811) (by decide +kernel)) (by decide +kernel)
theorem ks_X5_takeEither : Cond.instanceMethod yX5_takeEither ∈ big ∧ Cond.selects yX5_takeEither.cls yX5_takeEither yX5_takeEither ∈ big := ⟨mem_big (List.mem_of_getElem? (i := 810) (by decide +kernel)) (by decide +kernel), mem_big (List.mem_of_getElem? (i := 23) (by decide +kernel)) (by decide +kernel)⟩
theorem kp_X5_takeEither : Cond.initialized yX5_takeEither.cls ∈ big ∧ (yX5_takeEither.cls ≠ "java/lang/invoke/MethodHandle" ∧ yX5_takeEither.cls ≠ "java/lang/invoke/VarHandle" ∧ (parseMethodDescriptor yX5_takeEither.desc).map (fun d => d.parameters.length) = some 2) := ⟨mem_big (List.mem_of_getElem? (i := 128) (by decide +kernel)) (by decide +kernel), by decide +kernel⟩
theorem km_X5_256 : LkV RX5 256 yX5_takeEither cX5_takeEither 3 none 2 := ⟨⟨kd_X5_takeEither, mem_big (List.mem_of_getElem? (i := 808) (by decide +kernel)) (by decide +kernel), kp_X5_takeEither.1, kp_X5_takeEither.2⟩, ks_X5_takeEither⟩
theorem kd_X5_reportShade : Cond.code yX5_reportShade cX5_reportShade 3 none ∈ big := mem_big (List.mem_of_getElem? (i := 815) (by decide +kernel)) (by decide +kernel)
theorem ks_X5_reportShade : Cond.instanceMethod yX5_reportShade ∈ big ∧ Cond.selects yX5_reportShade.cls yX5_reportShade yX5_reportShade ∈ big := ⟨mem_big (List.mem_of_getElem? (i := 814) (by decide +kernel)) (by decide +kernel), mem_big (List.mem_of_getElem? (i := 24) (by decide +kernel)) (by decide +kernel)⟩
theorem kp_X5_reportShade : Cond.initialized yX5_reportShade.cls ∈ big ∧ (yX5_reportShade.cls ≠ "java/lang/invoke/MethodHandle" ∧ yX5_reportShade.cls ≠ "java/lang/invoke/VarHandle" ∧ (parseMethodDescriptor yX5_reportShade.desc).map (fun d => d.parameters.length) = some 2) := ⟨mem_big (List.mem_of_getElem? (i := 128) (by decide +kernel)) (by decide +kernel), by decide +kernel⟩
theorem km_X5_259 : LkV RX5 259 yX5_reportShade cX5_reportShade 3 none 2 := ⟨⟨kd_X5_reportShade, mem_big (List.mem_of_getElem? (i := 812) (by decide +kernel)) (by decide +kernel), kp_X5_reportShade.1, kp_X5_reportShade.2⟩, ks_X5_reportShade⟩
theorem kd_X9_shade : Cond.code yX9_shade cX9_shade 5 (some .int) ∈ big := mem_big (List.mem_of_getElem? (i := 838) (by decide +kernel)) (by decide +kernel)
theorem ks_X9_shade : Cond.static yX9_shade ∈ big := mem_big (List.mem_of_getElem? (i := 837) (by decide +kernel)) (by decide +kernel)
theorem kp_X9_shade : Cond.initialized yX9_shade.cls ∈ big ∧ (yX9_shade.cls ≠ "java/lang/invoke/MethodHandle" ∧ yX9_shade.cls ≠ "java/lang/invoke/VarHandle" ∧ (parseMethodDescriptor yX9_shade.desc).map (fun d => d.parameters.length) = some 4) := ⟨mem_big (List.mem_of_getElem? (i := 137) (by decide +kernel)) (by decide +kernel), by decide +kernel⟩
theorem km_X5_263 : LkS RX5 263 yX9_shade cX9_shade 5 (some .int) 4 := ⟨⟨kd_X9_shade, mem_big (List.mem_of_getElem? (i := 836) (by decide +kernel)) (by decide +kernel), kp_X9_shade.1, kp_X9_shade.2⟩, ks_X9_shade⟩
theorem kd_X9_value : Cond.code yX9_value cX9_value 3 (some .int) ∈ big := mem_big (List.mem_of_getElem? (i := 869) (by decide +kernel)) (by decide +kernel)
theorem ks_X9_value : Cond.static yX9_value ∈ big := mem_big (List.mem_of_getElem? (i := 868) (by decide +kernel)) (by decide +kernel)
theorem kp_X9_value : Cond.initialized yX9_value.cls ∈ big ∧ (yX9_value.cls ≠ "java/lang/invoke/MethodHandle" ∧ yX9_value.cls ≠ "java/lang/invoke/VarHandle" ∧ (parseMethodDescriptor yX9_value.desc).map (fun d => d.parameters.length) = some 3) := ⟨mem_big (List.mem_of_getElem? (i := 137) (by decide +kernel)) (by decide +kernel), by decide +kernel⟩
theorem km_X5_268 : LkS RX5 268 yX9_value cX9_value 3 (some .int) 3 := ⟨⟨kd_X9_value, mem_big (List.mem_of_getElem? (i := 867) (by decide +kernel)) (by decide +kernel), kp_X9_value.1, kp_X9_value.2⟩, ks_X9_value⟩
theorem kd_X9_origin : Cond.code yX9_origin cX9_origin 2 (some .int) ∈ big := mem_big (List.mem_of_getElem? (i := 872) (by decide +kernel)) (by decide +kernel)
theorem ks_X9_origin : Cond.static yX9_origin ∈ big := mem_big (List.mem_of_getElem? (i := 871) (by decide +kernel)) (by decide +kernel)
theorem kp_X9_origin : Cond.initialized yX9_origin.cls ∈ big ∧ (yX9_origin.cls ≠ "java/lang/invoke/MethodHandle" ∧ yX9_origin.cls ≠ "java/lang/invoke/VarHandle" ∧ (parseMethodDescriptor yX9_origin.desc).map (fun d => d.parameters.length) = some 2) := ⟨mem_big (List.mem_of_getElem? (i := 137) (by decide +kernel)) (by decide +kernel), by decide +kernel⟩
theorem km_X5_272 : LkS RX5 272 yX9_origin cX9_origin 2 (some .int) 2 := ⟨⟨kd_X9_origin, mem_big (List.mem_of_getElem? (i := 870) (by decide +kernel)) (by decide +kernel), kp_X9_origin.1, kp_X9_origin.2⟩, ks_X9_origin⟩
theorem kd_X5_give : Cond.code yX5_give cX5_give 6 none ∈ big := mem_big (List.mem_of_getElem? (i := 876) (by decide +kernel)) (by decide +kernel)
theorem ks_X5_give : Cond.instanceMethod yX5_give ∈ big ∧ Cond.selects yX5_give.cls yX5_give yX5_give ∈ big := ⟨mem_big (List.mem_of_getElem? (i := 875) (by decide +kernel)) (by decide +kernel), mem_big (List.mem_of_getElem? (i := 29) (by decide +kernel)) (by decide +kernel)⟩
theorem kp_X5_give : Cond.initialized yX5_give.cls ∈ big ∧ (yX5_give.cls ≠ "java/lang/invoke/MethodHandle" ∧ yX5_give.cls ≠ "java/lang/invoke/VarHandle" ∧ (parseMethodDescriptor yX5_give.desc).map (fun d => d.parameters.length) = some 4) := ⟨mem_big (List.mem_of_getElem? (i := 128) (by decide +kernel)) (by decide +kernel), by decide +kernel⟩
theorem km_X5_275 : LkV RX5 275 yX5_give cX5_give 6 none 4 := ⟨⟨kd_X5_give, mem_big (List.mem_of_getElem? (i := 873) (by decide +kernel)) (by decide +kernel), kp_X5_give.1, kp_X5_give.2⟩, ks_X5_give⟩
theorem kd_X5_isValid : Cond.code yX5_isValid cX5_isValid 4 (some .boolean) ∈ big := mem_big (List.mem_of_getElem? (i := 911) (by decide +kernel)) (by decide +kernel)
theorem ks_X5_isValid : Cond.instanceMethod yX5_isValid ∈ big ∧ Cond.selects yX5_isValid.cls yX5_isValid yX5_isValid ∈ big := ⟨mem_big (List.mem_of_getElem? (i := 910) (by decide +kernel)) (by decide +kernel), mem_big (List.mem_of_getElem? (i := 33) (by decide +kernel)) (by decide +kernel)⟩
theorem kp_X5_isValid : Cond.initialized yX5_isValid.cls ∈ big ∧ (yX5_isValid.cls ≠ "java/lang/invoke/MethodHandle" ∧ yX5_isValid.cls ≠ "java/lang/invoke/VarHandle" ∧ (parseMethodDescriptor yX5_isValid.desc).map (fun d => d.parameters.length) = some 2) := ⟨mem_big (List.mem_of_getElem? (i := 128) (by decide +kernel)) (by decide +kernel), by decide +kernel⟩
theorem km_X5_279 : LkV RX5 279 yX5_isValid cX5_isValid 4 (some .boolean) 2 := ⟨⟨kd_X5_isValid, mem_big (List.mem_of_getElem? (i := 908) (by decide +kernel)) (by decide +kernel), kp_X5_isValid.1, kp_X5_isValid.2⟩, ks_X5_isValid⟩
theorem kd_X6_readInto : Cond.code yX6_readInto cX6_readInto 9 none ∈ big := mem_big (List.mem_of_getElem? (i := 923) (by decide +kernel)) (by decide +kernel)
theorem ks_X6_readInto : Cond.instanceMethod yX6_readInto ∈ big ∧ Cond.selects yX6_readInto.cls yX6_readInto yX6_readInto ∈ big := ⟨mem_big (List.mem_of_getElem? (i := 921) (by decide +kernel)) (by decide +kernel), mem_big (List.mem_of_getElem? (i := 922) (by decide +kernel)) (by decide +kernel)⟩
theorem kp_X6_readInto : Cond.initialized yX6_readInto.cls ∈ big ∧ (yX6_readInto.cls ≠ "java/lang/invoke/MethodHandle" ∧ yX6_readInto.cls ≠ "java/lang/invoke/VarHandle" ∧ (parseMethodDescriptor yX6_readInto.desc).map (fun d => d.parameters.length) = some 3) := ⟨mem_big (List.mem_of_getElem? (i := 129) (by decide +kernel)) (by decide +kernel), by decide +kernel⟩
theorem km_X5_283 : LkV RX5 283 yX6_readInto cX6_readInto 9 none 3 := ⟨⟨kd_X6_readInto, mem_big (List.mem_of_getElem? (i := 920) (by decide +kernel)) (by decide +kernel), kp_X6_readInto.1, kp_X6_readInto.2⟩, ks_X6_readInto⟩
theorem kd_X5_widthOf : Cond.code yX5_widthOf cX5_widthOf 1 (some .int) ∈ big := mem_big (List.mem_of_getElem? (i := 903) (by decide +kernel)) (by decide +kernel)
theorem ks_X5_widthOf : Cond.static yX5_widthOf ∈ big := mem_big (List.mem_of_getElem? (i := 902) (by decide +kernel)) (by decide +kernel)
theorem kp_X5_widthOf : Cond.initialized yX5_widthOf.cls ∈ big ∧ (yX5_widthOf.cls ≠ "java/lang/invoke/MethodHandle" ∧ yX5_widthOf.cls ≠ "java/lang/invoke/VarHandle" ∧ (parseMethodDescriptor yX5_widthOf.desc).map (fun d => d.parameters.length) = some 1) := ⟨mem_big (List.mem_of_getElem? (i := 128) (by decide +kernel)) (by decide +kernel), by decide +kernel⟩
theorem km_X5_287 : LkS RX5 287 yX5_widthOf cX5_widthOf 1 (some .int) 1 := ⟨⟨kd_X5_widthOf, mem_big (List.mem_of_getElem? (i := 901) (by decide +kernel)) (by decide +kernel), kp_X5_widthOf.1, kp_X5_widthOf.2⟩, ks_X5_widthOf⟩
theorem kd_X5_loadBytes : Cond.code yX5_loadBytes cX5_loadBytes 5 none ∈ big := mem_big (List.mem_of_getElem? (i := 907) (by decide +kernel)) (by decide +kernel)
theorem ks_X5_loadBytes : Cond.instanceMethod yX5_loadBytes ∈ big ∧ Cond.selects yX5_loadBytes.cls yX5_loadBytes yX5_loadBytes ∈ big := ⟨mem_big (List.mem_of_getElem? (i := 906) (by decide +kernel)) (by decide +kernel), mem_big (List.mem_of_getElem? (i := 32) (by decide +kernel)) (by decide +kernel)⟩
theorem kp_X5_loadBytes : Cond.initialized yX5_loadBytes.cls ∈ big ∧ (yX5_loadBytes.cls ≠ "java/lang/invoke/MethodHandle" ∧ yX5_loadBytes.cls ≠ "java/lang/invoke/VarHandle" ∧ (parseMethodDescriptor yX5_loadBytes.desc).map (fun d => d.parameters.length) = some 3) := ⟨mem_big (List.mem_of_getElem? (i := 128) (by decide +kernel)) (by decide +kernel), by decide +kernel⟩
theorem km_X5_290 : LkV RX5 290 yX5_loadBytes cX5_loadBytes 5 none 3 := ⟨⟨kd_X5_loadBytes, mem_big (List.mem_of_getElem? (i := 904) (by decide +kernel)) (by decide +kernel), kp_X5_loadBytes.1, kp_X5_loadBytes.2⟩, ks_X5_loadBytes⟩
theorem kd_X6_write : Cond.code yX6_write cX6_write 5 none ∈ big := mem_big (List.mem_of_getElem? (i := 932) (by decide +kernel)) (by decide +kernel)
theorem ks_X6_write : Cond.instanceMethod yX6_write ∈ big ∧ Cond.selects yX6_write.cls yX6_write yX6_write ∈ big := ⟨mem_big (List.mem_of_getElem? (i := 930) (by decide +kernel)) (by decide +kernel), mem_big (List.mem_of_getElem? (i := 931) (by decide +kernel)) (by decide +kernel)⟩
theorem kp_X6_write : Cond.initialized yX6_write.cls ∈ big ∧ (yX6_write.cls ≠ "java/lang/invoke/MethodHandle" ∧ yX6_write.cls ≠ "java/lang/invoke/VarHandle" ∧ (parseMethodDescriptor yX6_write.desc).map (fun d => d.parameters.length) = some 3) := ⟨mem_big (List.mem_of_getElem? (i := 129) (by decide +kernel)) (by decide +kernel), by decide +kernel⟩
theorem km_X5_293 : LkV RX5 293 yX6_write cX6_write 5 none 3 := ⟨⟨kd_X6_write, mem_big (List.mem_of_getElem? (i := 929) (by decide +kernel)) (by decide +kernel), kp_X6_write.1, kp_X6_write.2⟩, ks_X6_write⟩
theorem kd_X5_allotBlock : Cond.code yX5_allotBlock cX5_allotBlock 5 (some .int) ∈ big := mem_big (List.mem_of_getElem? (i := 960) (by decide +kernel)) (by decide +kernel)
theorem ks_X5_allotBlock : Cond.instanceMethod yX5_allotBlock ∈ big ∧ Cond.selects yX5_allotBlock.cls yX5_allotBlock yX5_allotBlock ∈ big := ⟨mem_big (List.mem_of_getElem? (i := 959) (by decide +kernel)) (by decide +kernel), mem_big (List.mem_of_getElem? (i := 41) (by decide +kernel)) (by decide +kernel)⟩
theorem kp_X5_allotBlock : Cond.initialized yX5_allotBlock.cls ∈ big ∧ (yX5_allotBlock.cls ≠ "java/lang/invoke/MethodHandle" ∧ yX5_allotBlock.cls ≠ "java/lang/invoke/VarHandle" ∧ (parseMethodDescriptor yX5_allotBlock.desc).map (fun d => d.parameters.length) = some 2) := ⟨mem_big (List.mem_of_getElem? (i := 128) (by decide +kernel)) (by decide +kernel), by decide +kernel⟩
theorem km_X5_296 : LkV RX5 296 yX5_allotBlock cX5_allotBlock 5 (some .int) 2 := ⟨⟨kd_X5_allotBlock, mem_big (List.mem_of_getElem? (i := 957) (by decide +kernel)) (by decide +kernel), kp_X5_allotBlock.1, kp_X5_allotBlock.2⟩, ks_X5_allotBlock⟩
theorem kd_X2_make : Cond.code yX2_make cX2_make 4 (some .int) ∈ big := mem_big (List.mem_of_getElem? (i := 964) (by decide +kernel)) (by decide +kernel)
theorem ks_X2_make : Cond.instanceMethod yX2_make ∈ big ∧ Cond.selects yX2_make.cls yX2_make yX2_make ∈ big := ⟨mem_big (List.mem_of_getElem? (i := 962) (by decide +kernel)) (by decide +kernel), mem_big (List.mem_of_getElem? (i := 963) (by decide +kernel)) (by decide +kernel)⟩
theorem kp_X2_make : Cond.initialized yX2_make.cls ∈ big ∧ (yX2_make.cls ≠ "java/lang/invoke/MethodHandle" ∧ yX2_make.cls ≠ "java/lang/invoke/VarHandle" ∧ (parseMethodDescriptor yX2_make.desc).map (fun d => d.parameters.length) = some 2) := ⟨mem_big (List.mem_of_getElem? (i := 130) (by decide +kernel)) (by decide +kernel), by decide +kernel⟩
theorem km_X5_300 : LkV RX5 300 yX2_make cX2_make 4 (some .int) 2 := ⟨⟨kd_X2_make, mem_big (List.mem_of_getElem? (i := 961) (by decide +kernel)) (by decide +kernel), kp_X2_make.1, kp_X2_make.2⟩, ks_X2_make⟩
theorem kd_X6_setToZero : Cond.code yX6_setToZero cX6_setToZero 4 none ∈ big := mem_big (List.mem_of_getElem? (i := 979) (by decide +kernel)) (by decide +kernel)
theorem ks_X6_setToZero : Cond.instanceMethod yX6_setToZero ∈ big ∧ Cond.selects yX6_setToZero.cls yX6_setToZero yX6_setToZero ∈ big := ⟨mem_big (List.mem_of_getElem? (i := 977) (by decide +kernel)) (by decide +kernel), mem_big (List.mem_of_getElem? (i := 978) (by decide +kernel)) (by decide +kernel)⟩
theorem kp_X6_setToZero : Cond.initialized yX6_setToZero.cls ∈ big ∧ (yX6_setToZero.cls ≠ "java/lang/invoke/MethodHandle" ∧ yX6_setToZero.cls ≠ "java/lang/invoke/VarHandle" ∧ (parseMethodDescriptor yX6_setToZero.desc).map (fun d => d.parameters.length) = some 2) := ⟨mem_big (List.mem_of_getElem? (i := 129) (by decide +kernel)) (by decide +kernel), by decide +kernel⟩
theorem km_X5_306 : LkV RX5 306 yX6_setToZero cX6_setToZero 4 none 2 := ⟨⟨kd_X6_setToZero, mem_big (List.mem_of_getElem? (i := 976) (by decide +kernel)) (by decide +kernel), kp_X6_setToZero.1, kp_X6_setToZero.2⟩, ks_X6_setToZero⟩
theorem kd_X6_unset : Cond.code yX6_unset cX6_unset 5 none ∈ big := mem_big (List.mem_of_getElem? (i := 888) (by decide +kernel)) (by decide +kernel)
theorem ks_X6_unset : Cond.instanceMethod yX6_unset ∈ big ∧ Cond.selects yX6_unset.cls yX6_unset yX6_unset ∈ big := ⟨mem_big (List.mem_of_getElem? (i := 886) (by decide +kernel)) (by decide +kernel), mem_big (List.mem_of_getElem? (i := 887) (by decide +kernel)) (by decide +kernel)⟩
theorem kp_X6_unset : Cond.initialized yX6_unset.cls ∈ big ∧ (yX6_unset.cls ≠ "java/lang/invoke/MethodHandle" ∧ yX6_unset.cls ≠ "java/lang/invoke/VarHandle" ∧ (parseMethodDescriptor yX6_unset.desc).map (fun d => d.parameters.length) = some 3) := ⟨mem_big (List.mem_of_getElem? (i := 129) (by decide +kernel)) (by decide +kernel), by decide +kernel⟩
theorem km_X5_310 : LkV RX5 310 yX6_unset cX6_unset 5 none 3 := ⟨⟨kd_X6_unset, mem_big (List.mem_of_getElem? (i := 980) (by decide +kernel)) (by decide +kernel), kp_X6_unset.1, kp_X6_unset.2⟩, ks_X6_unset⟩
theorem kd_X5_blockToFree : Cond.code yX5_blockToFree cX5_blockToFree 3 (some .int) ∈ big := mem_big (List.mem_of_getElem? (i := 988) (by decide +kernel)) (by decide +kernel)
theorem ks_X5_blockToFree : Cond.instanceMethod yX5_blockToFree ∈ big ∧ Cond.selects yX5_blockToFree.cls yX5_blockToFree yX5_blockToFree ∈ big := ⟨mem_big (List.mem_of_getElem? (i := 987) (by decide +kernel)) (by decide +kernel), mem_big (List.mem_of_getElem? (i := 45) (by decide +kernel)) (by decide +kernel)⟩
theorem kp_X5_blockToFree : Cond.initialized yX5_blockToFree.cls ∈ big ∧ (yX5_blockToFree.cls ≠ "java/lang/invoke/MethodHandle" ∧ yX5_blockToFree.cls ≠ "java/lang/invoke/VarHandle" ∧ (parseMethodDescriptor yX5_blockToFree.desc).map (fun d => d.parameters.length) = some 1) := ⟨mem_big (List.mem_of_getElem? (i := 128) (by decide +kernel)) (by decide +kernel), by decide +kernel⟩
theorem km_X5_313 : LkV RX5 313 yX5_blockToFree cX5_blockToFree 3 (some .int) 1 := ⟨⟨kd_X5_blockToFree, mem_big (List.mem_of_getElem? (i := 985) (by decide +kernel)) (by decide +kernel), kp_X5_blockToFree.1, kp_X5_blockToFree.2⟩, ks_X5_blockToFree⟩
theorem kd_X5_keepBlock : Cond.code yX5_keepBlock cX5_keepBlock 2 none ∈ big := mem_big (List.mem_of_getElem? (i := 1012) (by decide +kernel)) (by decide +kernel)
theorem ks_X5_keepBlock : Cond.instanceMethod yX5_keepBlock ∈ big ∧ Cond.selects yX5_keepBlock.cls yX5_keepBlock yX5_keepBlock ∈ big := ⟨mem_big (List.mem_of_getElem? (i := 1011) (by decide +kernel)) (by decide +kernel), mem_big (List.mem_of_getElem? (i := 46) (by decide +kernel)) (by decide +kernel)⟩
theorem kp_X5_keepBlock : Cond.initialized yX5_keepBlock.cls ∈ big ∧ (yX5_keepBlock.cls ≠ "java/lang/invoke/MethodHandle" ∧ yX5_keepBlock.cls ≠ "java/lang/invoke/VarHandle" ∧ (parseMethodDescriptor yX5_keepBlock.desc).map (fun d => d.parameters.length) = some 1) := ⟨mem_big (List.mem_of_getElem? (i := 128) (by decide +kernel)) (by decide +kernel), by decide +kernel⟩
theorem km_X5_316 : LkV RX5 316 yX5_keepBlock cX5_keepBlock 2 none 1 := ⟨⟨kd_X5_keepBlock, mem_big (List.mem_of_getElem? (i := 1009) (by decide +kernel)) (by decide +kernel), kp_X5_keepBlock.1, kp_X5_keepBlock.2⟩, ks_X5_keepBlock⟩
theorem kd_X2_beginsAt : Cond.code yX2_beginsAt cX2_beginsAt 3 (some .int) ∈ big := mem_big (List.mem_of_getElem? (i := 992) (by decide +kernel)) (by decide +kernel)
theorem ks_X2_beginsAt : Cond.instanceMethod yX2_beginsAt ∈ big ∧ Cond.selects yX2_beginsAt.cls yX2_beginsAt yX2_beginsAt ∈ big := ⟨mem_big (List.mem_of_getElem? (i := 990) (by decide +kernel)) (by decide +kernel), mem_big (List.mem_of_getElem? (i := 991) (by decide +kernel)) (by decide +kernel)⟩
theorem kp_X2_beginsAt : Cond.initialized yX2_beginsAt.cls ∈ big ∧ (yX2_beginsAt.cls ≠ "java/lang/invoke/MethodHandle" ∧ yX2_beginsAt.cls ≠ "java/lang/invoke/VarHandle" ∧ (parseMethodDescriptor yX2_beginsAt.desc).map (fun d => d.parameters.length) = some 1) := ⟨mem_big (List.mem_of_getElem? (i := 130) (by decide +kernel)) (by decide +kernel), by decide +kernel⟩
theorem km_X5_319 : LkV RX5 319 yX2_beginsAt cX2_beginsAt 3 (some .int) 1 := ⟨⟨kd_X2_beginsAt, mem_big (List.mem_of_getElem? (i := 989) (by decide +kernel)) (by decide +kernel), kp_X2_beginsAt.1, kp_X2_beginsAt.2⟩, ks_X2_beginsAt⟩
theorem kd_X6_close : Cond.code yX6_close cX6_close 4 none ∈ big := mem_big (List.mem_of_getElem? (i := 1016) (by decide +kernel)) (by decide +kernel)
theorem ks_X6_close : Cond.instanceMethod yX6_close ∈ big ∧ Cond.selects yX6_close.cls yX6_close yX6_close ∈ big := ⟨mem_big (List.mem_of_getElem? (i := 1014) (by decide +kernel)) (by decide +kernel), mem_big (List.mem_of_getElem? (i := 1015) (by decide +kernel)) (by decide +kernel)⟩
theorem kp_X6_close : Cond.initialized yX6_close.cls ∈ big ∧ (yX6_close.cls ≠ "java/lang/invoke/MethodHandle" ∧ yX6_close.cls ≠ "java/lang/invoke/VarHandle" ∧ (parseMethodDescriptor yX6_close.desc).map (fun d => d.parameters.length) = some 2) := ⟨mem_big (List.mem_of_getElem? (i := 129) (by decide +kernel)) (by decide +kernel), by decide +kernel⟩
theorem km_X5_325 : LkV RX5 325 yX6_close cX6_close 4 none 2 := ⟨⟨kd_X6_close, mem_big (List.mem_of_getElem? (i := 1013) (by decide +kernel)) (by decide +kernel), kp_X6_close.1, kp_X6_close.2⟩, ks_X6_close⟩
theorem kd_X2_keep : Cond.code yX2_keep cX2_keep 4 none ∈ big := mem_big (List.mem_of_getElem? (i := 1020) (by decide +kernel)) (by decide +kernel)
theorem ks_X2_keep : Cond.instanceMethod yX2_keep ∈ big ∧ Cond.selects yX2_keep.cls yX2_keep yX2_keep ∈ big := ⟨mem_big (List.mem_of_getElem? (i := 1018) (by decide +kernel)) (by decide +kernel), mem_big (List.mem_of_getElem? (i := 1019) (by decide +kernel)) (by decide +kernel)⟩
theorem kp_X2_keep : Cond.initialized yX2_keep.cls ∈ big ∧ (yX2_keep.cls ≠ "java/lang/invoke/MethodHandle" ∧ yX2_keep.cls ≠ "java/lang/invoke/VarHandle" ∧ (parseMethodDescriptor yX2_keep.desc).map (fun d => d.parameters.length) = some 2) := ⟨mem_big (List.mem_of_getElem? (i := 130) (by decide +kernel)) (by decide +kernel), by decide +kernel⟩
theorem km_X5_328 : LkV RX5 328 yX2_keep cX2_keep 4 none 2 := ⟨⟨kd_X2_keep, mem_big (List.mem_of_getElem? (i := 1017) (by decide +kernel)) (by decide +kernel), kp_X2_keep.1, kp_X2_keep.2⟩, ks_X2_keep⟩
theorem km_X5_331 : LkN RX5 331 Lib.Math.min.name Lib.Math.min.code "java/lang/Math" := ⟨mem_big (List.mem_of_getElem? (i := 998) (by decide +kernel)) (by decide +kernel), mem_big (List.mem_of_getElem? (i := 778) (by decide +kernel)) (by decide +kernel), mem_big (List.mem_of_getElem? (i := 136) (by decide +kernel)) (by decide +kernel), mem_big (List.mem_of_getElem? (i := 779) (by decide +kernel)) (by decide +kernel)⟩
theorem kd_X6_move : Cond.code yX6_move cX6_move 4 none ∈ big := mem_big (List.mem_of_getElem? (i := 1002) (by decide +kernel)) (by decide +kernel)
theorem ks_X6_move : Cond.instanceMethod yX6_move ∈ big ∧ Cond.selects yX6_move.cls yX6_move yX6_move ∈ big := ⟨mem_big (List.mem_of_getElem? (i := 1000) (by decide +kernel)) (by decide +kernel), mem_big (List.mem_of_getElem? (i := 1001) (by decide +kernel)) (by decide +kernel)⟩
theorem kp_X6_move : Cond.initialized yX6_move.cls ∈ big ∧ (yX6_move.cls ≠ "java/lang/invoke/MethodHandle" ∧ yX6_move.cls ≠ "java/lang/invoke/VarHandle" ∧ (parseMethodDescriptor yX6_move.desc).map (fun d => d.parameters.length) = some 3) := ⟨mem_big (List.mem_of_getElem? (i := 129) (by decide +kernel)) (by decide +kernel), by decide +kernel⟩
theorem km_X5_336 : LkV RX5 336 yX6_move cX6_move 4 none 3 := ⟨⟨kd_X6_move, mem_big (List.mem_of_getElem? (i := 999) (by decide +kernel)) (by decide +kernel), kp_X6_move.1, kp_X6_move.2⟩, ks_X6_move⟩
theorem kd_X5_isCount : Cond.code yX5_isCount cX5_isCount 1 (some .boolean) ∈ big := mem_big (List.mem_of_getElem? (i := 1031) (by decide +kernel)) (by decide +kernel)
theorem ks_X5_isCount : Cond.static yX5_isCount ∈ big := mem_big (List.mem_of_getElem? (i := 1030) (by decide +kernel)) (by decide +kernel)
theorem kp_X5_isCount : Cond.initialized yX5_isCount.cls ∈ big ∧ (yX5_isCount.cls ≠ "java/lang/invoke/MethodHandle" ∧ yX5_isCount.cls ≠ "java/lang/invoke/VarHandle" ∧ (parseMethodDescriptor yX5_isCount.desc).map (fun d => d.parameters.length) = some 1) := ⟨mem_big (List.mem_of_getElem? (i := 128) (by decide +kernel)) (by decide +kernel), by decide +kernel⟩
theorem km_X5_339 : LkS RX5 339 yX5_isCount cX5_isCount 1 (some .boolean) 1 := ⟨⟨kd_X5_isCount, mem_big (List.mem_of_getElem? (i := 1029) (by decide +kernel)) (by decide +kernel), kp_X5_isCount.1, kp_X5_isCount.2⟩, ks_X5_isCount⟩
theorem kd_X6_repeat : Cond.code yX6_repeat cX6_repeat 5 none ∈ big := mem_big (List.mem_of_getElem? (i := 1039) (by decide +kernel)) (by decide +kernel)
theorem ks_X6_repeat : Cond.instanceMethod yX6_repeat ∈ big ∧ Cond.selects yX6_repeat.cls yX6_repeat yX6_repeat ∈ big := ⟨mem_big (List.mem_of_getElem? (i := 1037) (by decide +kernel)) (by decide +kernel), mem_big (List.mem_of_getElem? (i := 1038) (by decide +kernel)) (by decide +kernel)⟩
theorem kp_X6_repeat : Cond.initialized yX6_repeat.cls ∈ big ∧ (yX6_repeat.cls ≠ "java/lang/invoke/MethodHandle" ∧ yX6_repeat.cls ≠ "java/lang/invoke/VarHandle" ∧ (parseMethodDescriptor yX6_repeat.desc).map (fun d => d.parameters.length) = some 3) := ⟨mem_big (List.mem_of_getElem? (i := 129) (by decide +kernel)) (by decide +kernel), by decide +kernel⟩
theorem km_X5_342 : LkV RX5 342 yX6_repeat cX6_repeat 5 none 3 := ⟨⟨kd_X6_repeat, mem_big (List.mem_of_getElem? (i := 1036) (by decide +kernel)) (by decide +kernel), kp_X6_repeat.1, kp_X6_repeat.2⟩, ks_X6_repeat⟩
theorem kd_X6_holds : Cond.code yX6_holds cX6_holds 2 (some .boolean) ∈ big := mem_big (List.mem_of_getElem? (i := 1005) (by decide +kernel)) (by decide +kernel)
theorem ks_X6_holds : Cond.static yX6_holds ∈ big := mem_big (List.mem_of_getElem? (i := 1004) (by decide +kernel)) (by decide +kernel)
theorem kp_X6_holds : Cond.initialized yX6_holds.cls ∈ big ∧ (yX6_holds.cls ≠ "java/lang/invoke/MethodHandle" ∧ yX6_holds.cls ≠ "java/lang/invoke/VarHandle" ∧ (parseMethodDescriptor yX6_holds.desc).map (fun d => d.parameters.length) = some 2) := ⟨mem_big (List.mem_of_getElem? (i := 129) (by decide +kernel)) (by decide +kernel), by decide +kernel⟩
theorem km_X5_351 : LkS RX5 351 yX6_holds cX6_holds 2 (some .boolean) 2 := ⟨⟨kd_X6_holds, mem_big (List.mem_of_getElem? (i := 1056) (by decide +kernel)) (by decide +kernel), kp_X6_holds.1, kp_X6_holds.2⟩, ks_X6_holds⟩
theorem kd_X5_isRange : Cond.code yX5_isRange cX5_isRange 3 (some .boolean) ∈ big := mem_big (List.mem_of_getElem? (i := 1055) (by decide +kernel)) (by decide +kernel)
theorem ks_X5_isRange : Cond.instanceMethod yX5_isRange ∈ big ∧ Cond.selects yX5_isRange.cls yX5_isRange yX5_isRange ∈ big := ⟨mem_big (List.mem_of_getElem? (i := 1054) (by decide +kernel)) (by decide +kernel), mem_big (List.mem_of_getElem? (i := 53) (by decide +kernel)) (by decide +kernel)⟩
theorem kp_X5_isRange : Cond.initialized yX5_isRange.cls ∈ big ∧ (yX5_isRange.cls ≠ "java/lang/invoke/MethodHandle" ∧ yX5_isRange.cls ≠ "java/lang/invoke/VarHandle" ∧ (parseMethodDescriptor yX5_isRange.desc).map (fun d => d.parameters.length) = some 2) := ⟨mem_big (List.mem_of_getElem? (i := 128) (by decide +kernel)) (by decide +kernel), by decide +kernel⟩
theorem km_X5_354 : LkV RX5 354 yX5_isRange cX5_isRange 3 (some .boolean) 2 := ⟨⟨kd_X5_isRange, mem_big (List.mem_of_getElem? (i := 1052) (by decide +kernel)) (by decide +kernel), kp_X5_isRange.1, kp_X5_isRange.2⟩, ks_X5_isRange⟩
theorem kd_X6_noteMark : Cond.code yX6_noteMark cX6_noteMark 3 none ∈ big := mem_big (List.mem_of_getElem? (i := 1060) (by decide +kernel)) (by decide +kernel)
theorem ks_X6_noteMark : Cond.instanceMethod yX6_noteMark ∈ big ∧ Cond.selects yX6_noteMark.cls yX6_noteMark yX6_noteMark ∈ big := ⟨mem_big (List.mem_of_getElem? (i := 1058) (by decide +kernel)) (by decide +kernel), mem_big (List.mem_of_getElem? (i := 1059) (by decide +kernel)) (by decide +kernel)⟩
theorem kp_X6_noteMark : Cond.initialized yX6_noteMark.cls ∈ big ∧ (yX6_noteMark.cls ≠ "java/lang/invoke/MethodHandle" ∧ yX6_noteMark.cls ≠ "java/lang/invoke/VarHandle" ∧ (parseMethodDescriptor yX6_noteMark.desc).map (fun d => d.parameters.length) = some 2) := ⟨mem_big (List.mem_of_getElem? (i := 129) (by decide +kernel)) (by decide +kernel), by decide +kernel⟩
theorem km_X5_357 : LkV RX5 357 yX6_noteMark cX6_noteMark 3 none 2 := ⟨⟨kd_X6_noteMark, mem_big (List.mem_of_getElem? (i := 1057) (by decide +kernel)) (by decide +kernel), kp_X6_noteMark.1, kp_X6_noteMark.2⟩, ks_X6_noteMark⟩
theorem kd_X6_setAsTheyAre : Cond.code yX6_setAsTheyAre cX6_setAsTheyAre 4 none ∈ big := mem_big (List.mem_of_getElem? (i := 1064) (by decide +kernel)) (by decide +kernel)
theorem ks_X6_setAsTheyAre : Cond.instanceMethod yX6_setAsTheyAre ∈ big ∧ Cond.selects yX6_setAsTheyAre.cls yX6_setAsTheyAre yX6_setAsTheyAre ∈ big := ⟨mem_big (List.mem_of_getElem? (i := 1062) (by decide +kernel)) (by decide +kernel), mem_big (List.mem_of_getElem? (i := 1063) (by decide +kernel)) (by decide +kernel)⟩
theorem kp_X6_setAsTheyAre : Cond.initialized yX6_setAsTheyAre.cls ∈ big ∧ (yX6_setAsTheyAre.cls ≠ "java/lang/invoke/MethodHandle" ∧ yX6_setAsTheyAre.cls ≠ "java/lang/invoke/VarHandle" ∧ (parseMethodDescriptor yX6_setAsTheyAre.desc).map (fun d => d.parameters.length) = some 2) := ⟨mem_big (List.mem_of_getElem? (i := 129) (by decide +kernel)) (by decide +kernel), by decide +kernel⟩
theorem km_X5_360 : LkV RX5 360 yX6_setAsTheyAre cX6_setAsTheyAre 4 none 2 := ⟨⟨kd_X6_setAsTheyAre, mem_big (List.mem_of_getElem? (i := 1061) (by decide +kernel)) (by decide +kernel), kp_X6_setAsTheyAre.1, kp_X6_setAsTheyAre.2⟩, ks_X6_setAsTheyAre⟩
theorem kd_X6_firstDoubtful : Cond.code yX6_firstDoubtful cX6_firstDoubtful 4 (some .int) ∈ big := mem_big (List.mem_of_getElem? (i := 1072) (by decide +kernel)) (by decide +kernel)
theorem ks_X6_firstDoubtful : Cond.instanceMethod yX6_firstDoubtful ∈ big ∧ Cond.selects yX6_firstDoubtful.cls yX6_firstDoubtful yX6_firstDoubtful ∈ big := ⟨mem_big (List.mem_of_getElem? (i := 1070) (by decide +kernel)) (by decide +kernel), mem_big (List.mem_of_getElem? (i := 1071) (by decide +kernel)) (by decide +kernel)⟩
theorem kp_X6_firstDoubtful : Cond.initialized yX6_firstDoubtful.cls ∈ big ∧ (yX6_firstDoubtful.cls ≠ "java/lang/invoke/MethodHandle" ∧ yX6_firstDoubtful.cls ≠ "java/lang/invoke/VarHandle" ∧ (parseMethodDescriptor yX6_firstDoubtful.desc).map (fun d => d.parameters.length) = some 2) := ⟨mem_big (List.mem_of_getElem? (i := 129) (by decide +kernel)) (by decide +kernel), by decide +kernel⟩
theorem km_X5_363 : LkV RX5 363 yX6_firstDoubtful cX6_firstDoubtful 4 (some .int) 2 := ⟨⟨kd_X6_firstDoubtful, mem_big (List.mem_of_getElem? (i := 1069) (by decide +kernel)) (by decide +kernel), kp_X6_firstDoubtful.1, kp_X6_firstDoubtful.2⟩, ks_X6_firstDoubtful⟩
theorem kd_X6_isByte : Cond.code yX6_isByte cX6_isByte 1 (some .boolean) ∈ big := mem_big (List.mem_of_getElem? (i := 891) (by decide +kernel)) (by decide +kernel)
theorem ks_X6_isByte : Cond.static yX6_isByte ∈ big := mem_big (List.mem_of_getElem? (i := 890) (by decide +kernel)) (by decide +kernel)
theorem kp_X6_isByte : Cond.initialized yX6_isByte.cls ∈ big ∧ (yX6_isByte.cls ≠ "java/lang/invoke/MethodHandle" ∧ yX6_isByte.cls ≠ "java/lang/invoke/VarHandle" ∧ (parseMethodDescriptor yX6_isByte.desc).map (fun d => d.parameters.length) = some 1) := ⟨mem_big (List.mem_of_getElem? (i := 129) (by decide +kernel)) (by decide +kernel), by decide +kernel⟩
theorem km_X6_35 : LkS RX6 35 yX6_isByte cX6_isByte 1 (some .boolean) 1 := ⟨⟨kd_X6_isByte, mem_big (List.mem_of_getElem? (i := 889) (by decide +kernel)) (by decide +kernel), kp_X6_isByte.1, kp_X6_isByte.2⟩, ks_X6_isByte⟩
theorem km_X6_39 : LkV RX6 39 yX6_nextFilling cX6_nextFilling 1 (some .int) 0 := ⟨⟨kd_X6_nextFilling, mem_big (List.mem_of_getElem? (i := 892) (by decide +kernel)) (by decide +kernel), kp_X6_nextFilling.1, kp_X6_nextFilling.2⟩, ks_X6_nextFilling⟩
theorem kd_X6_putByte : Cond.code yX6_putByte cX6_putByte 5 none ∈ big := mem_big (List.mem_of_getElem? (i := 896) (by decide +kernel)) (by decide +kernel)
theorem ks_X6_putByte : Cond.instanceMethod yX6_putByte ∈ big ∧ Cond.selects yX6_putByte.cls yX6_putByte yX6_putByte ∈ big := ⟨mem_big (List.mem_of_getElem? (i := 895) (by decide +kernel)) (by decide +kernel), mem_big (List.mem_of_getElem? (i := 30) (by decide +kernel)) (by decide +kernel)⟩
theorem kp_X6_putByte : Cond.initialized yX6_putByte.cls ∈ big ∧ (yX6_putByte.cls ≠ "java/lang/invoke/MethodHandle" ∧ yX6_putByte.cls ≠ "java/lang/invoke/VarHandle" ∧ (parseMethodDescriptor yX6_putByte.desc).map (fun d => d.parameters.length) = some 4) := ⟨mem_big (List.mem_of_getElem? (i := 129) (by decide +kernel)) (by decide +kernel), by decide +kernel⟩
theorem km_X6_43 : LkV RX6 43 yX6_putByte cX6_putByte 5 none 4 := ⟨⟨kd_X6_putByte, mem_big (List.mem_of_getElem? (i := 893) (by decide +kernel)) (by decide +kernel), kp_X6_putByte.1, kp_X6_putByte.2⟩, ks_X6_putByte⟩
theorem km_X6_47 : LkN RX6 47 Lib.Math.min.name Lib.Math.min.code "java/lang/Math" := ⟨mem_big (List.mem_of_getElem? (i := 881) (by decide +kernel)) (by decide +kernel), mem_big (List.mem_of_getElem? (i := 778) (by decide +kernel)) (by decide +kernel), mem_big (List.mem_of_getElem? (i := 136) (by decide +kernel)) (by decide +kernel), mem_big (List.mem_of_getElem? (i := 779) (by decide +kernel)) (by decide +kernel)⟩
theorem km_X6_53 : LkN RX6 53 Lib.Math.max.name Lib.Math.max.code "java/lang/Math" := ⟨mem_big (List.mem_of_getElem? (i := 882) (by decide +kernel)) (by decide +kernel), mem_big (List.mem_of_getElem? (i := 883) (by decide +kernel)) (by decide +kernel), mem_big (List.mem_of_getElem? (i := 136) (by decide +kernel)) (by decide +kernel), mem_big (List.mem_of_getElem? (i := 884) (by decide +kernel)) (by decide +kernel)⟩
theorem km_X6_56 : LkV RX6 56 yX6_unset cX6_unset 5 none 3 := ⟨⟨kd_X6_unset, mem_big (List.mem_of_getElem? (i := 885) (by decide +kernel)) (by decide +kernel), kp_X6_unset.1, kp_X6_unset.2⟩, ks_X6_unset⟩
theorem km_X6_60 : LkV RX6 60 yX1_put cX1_put 4 none 3 := ⟨⟨kd_X1_put, mem_big (List.mem_of_getElem? (i := 924) (by decide +kernel)) (by decide +kernel), kp_X1_put.1, kp_X1_put.2⟩, ks_X1_put⟩
theorem km_X6_73 : LkS RX6 73 yX6_holds cX6_holds 2 (some .boolean) 2 := ⟨⟨kd_X6_holds, mem_big (List.mem_of_getElem? (i := 1003) (by decide +kernel)) (by decide +kernel), kp_X6_holds.1, kp_X6_holds.2⟩, ks_X6_holds⟩
theorem km_X6_77 : LkC RX6 77 := ⟨mem_big (List.mem_of_getElem? (i := 1006) (by decide +kernel)) (by decide +kernel), mem_big (List.mem_of_getElem? (i := 1008) (by decide +kernel)) (by decide +kernel), mem_big (List.mem_of_getElem? (i := 1007) (by decide +kernel)) (by decide +kernel), mem_big (List.mem_of_getElem? (i := 138) (by decide +kernel)) (by decide +kernel)⟩
theorem km_X6_83 : LkV RX6 83 yX6_firstDoubtful cX6_firstDoubtful 4 (some .int) 2 := ⟨⟨kd_X6_firstDoubtful, mem_big (List.mem_of_getElem? (i := 1154) (by decide +kernel)) (by decide +kernel), kp_X6_firstDoubtful.1, kp_X6_firstDoubtful.2⟩, ks_X6_firstDoubtful⟩
theorem kd_X7_shapeOfOther : Cond.code yX7_shapeOfOther cX7_shapeOfOther 1 (some (.object "java/lang/String")) ∈ big := mem_big (List.mem_of_getElem? (i := 692) (by decide +kernel)) (by decide +kernel)
theorem ks_X7_shapeOfOther : Cond.static yX7_shapeOfOther ∈ big := mem_big (List.mem_of_getElem? (i := 691) (by decide +kernel)) (by decide +kernel)
theorem kp_X7_shapeOfOther : Cond.initialized yX7_shapeOfOther.cls ∈ big ∧ (yX7_shapeOfOther.cls ≠ "java/lang/invoke/MethodHandle" ∧ yX7_shapeOfOther.cls ≠ "java/lang/invoke/VarHandle" ∧ (parseMethodDescriptor yX7_shapeOfOther.desc).map (fun d => d.parameters.length) = some 1) := ⟨mem_big (List.mem_of_getElem? (i := 135) (by decide +kernel)) (by decide +kernel), by decide +kernel⟩
theorem km_X7_19 : LkS RX7 19 yX7_shapeOfOther cX7_shapeOfOther 1 (some (.object "java/lang/String")) 1 := ⟨⟨kd_X7_shapeOfOther, mem_big (List.mem_of_getElem? (i := 690) (by decide +kernel)) (by decide +kernel), kp_X7_shapeOfOther.1, kp_X7_shapeOfOther.2⟩, ks_X7_shapeOfOther⟩
theorem kd_X9_isBelow : Cond.code yX9_isBelow cX9_isBelow 2 (some .boolean) ∈ big := mem_big (List.mem_of_getElem? (i := 866) (by decide +kernel)) (by decide +kernel)
theorem ks_X9_isBelow : Cond.static yX9_isBelow ∈ big := mem_big (List.mem_of_getElem? (i := 865) (by decide +kernel)) (by decide +kernel)
theorem kp_X9_isBelow : Cond.initialized yX9_isBelow.cls ∈ big ∧ (yX9_isBelow.cls ≠ "java/lang/invoke/MethodHandle" ∧ yX9_isBelow.cls ≠ "java/lang/invoke/VarHandle" ∧ (parseMethodDescriptor yX9_isBelow.desc).map (fun d => d.parameters.length) = some 2) := ⟨mem_big (List.mem_of_getElem? (i := 137) (by decide +kernel)) (by decide +kernel), by decide +kernel⟩
theorem km_X9_7 : LkS RX9 7 yX9_isBelow cX9_isBelow 2 (some .boolean) 2 := ⟨⟨kd_X9_isBelow, mem_big (List.mem_of_getElem? (i := 864) (by decide +kernel)) (by decide +kernel), kp_X9_isBelow.1, kp_X9_isBelow.2⟩, ks_X9_isBelow⟩
theorem kd_X9_moved : Cond.code yX9_moved cX9_moved 3 (some .int) ∈ big := mem_big (List.mem_of_getElem? (i := 856) (by decide +kernel)) (by decide +kernel)
theorem ks_X9_moved : Cond.static yX9_moved ∈ big := mem_big (List.mem_of_getElem? (i := 855) (by decide +kernel)) (by decide +kernel)
theorem kp_X9_moved : Cond.initialized yX9_moved.cls ∈ big ∧ (yX9_moved.cls ≠ "java/lang/invoke/MethodHandle" ∧ yX9_moved.cls ≠ "java/lang/invoke/VarHandle" ∧ (parseMethodDescriptor yX9_moved.desc).map (fun d => d.parameters.length) = some 3) := ⟨mem_big (List.mem_of_getElem? (i := 137) (by decide +kernel)) (by decide +kernel), by decide +kernel⟩
theorem km_X9_13 : LkS RX9 13 yX9_moved cX9_moved 3 (some .int) 3 := ⟨⟨kd_X9_moved, mem_big (List.mem_of_getElem? (i := 854) (by decide +kernel)) (by decide +kernel), kp_X9_moved.1, kp_X9_moved.2⟩, ks_X9_moved⟩
theorem kd_X9_least : Cond.code yX9_least cX9_least 1 (some .int) ∈ big := mem_big (List.mem_of_getElem? (i := 841) (by decide +kernel)) (by decide +kernel)
theorem ks_X9_least : Cond.static yX9_least ∈ big := mem_big (List.mem_of_getElem? (i := 840) (by decide +kernel)) (by decide +kernel)
theorem kp_X9_least : Cond.initialized yX9_least.cls ∈ big ∧ (yX9_least.cls ≠ "java/lang/invoke/MethodHandle" ∧ yX9_least.cls ≠ "java/lang/invoke/VarHandle" ∧ (parseMethodDescriptor yX9_least.desc).map (fun d => d.parameters.length) = some 1) := ⟨mem_big (List.mem_of_getElem? (i := 137) (by decide +kernel)) (by decide +kernel), by decide +kernel⟩
theorem km_X9_23 : LkS RX9 23 yX9_least cX9_least 1 (some .int) 1 := ⟨⟨kd_X9_least, mem_big (List.mem_of_getElem? (i := 839) (by decide +kernel)) (by decide +kernel), kp_X9_least.1, kp_X9_least.2⟩, ks_X9_least⟩
theorem kd_X9_most : Cond.code yX9_most cX9_most 1 (some .int) ∈ big := mem_big (List.mem_of_getElem? (i := 844) (by decide +kernel)) (by decide +kernel)
theorem ks_X9_most : Cond.static yX9_most ∈ big := mem_big (List.mem_of_getElem? (i := 843) (by decide +kernel)) (by decide +kernel)
theorem kp_X9_most : Cond.initialized yX9_most.cls ∈ big ∧ (yX9_most.cls ≠ "java/lang/invoke/MethodHandle" ∧ yX9_most.cls ≠ "java/lang/invoke/VarHandle" ∧ (parseMethodDescriptor yX9_most.desc).map (fun d => d.parameters.length) = some 1) := ⟨mem_big (List.mem_of_getElem? (i := 137) (by decide +kernel)) (by decide +kernel), by decide +kernel⟩
theorem km_X9_27 : LkS RX9 27 yX9_most cX9_most 1 (some .int) 1 := ⟨⟨kd_X9_most, mem_big (List.mem_of_getElem? (i := 842) (by decide +kernel)) (by decide +kernel), kp_X9_most.1, kp_X9_most.2⟩, ks_X9_most⟩
theorem kd_X9_left : Cond.code yX9_left cX9_left 1 (some .int) ∈ big := mem_big (List.mem_of_getElem? (i := 847) (by decide +kernel)) (by decide +kernel)
theorem ks_X9_left : Cond.static yX9_left ∈ big := mem_big (List.mem_of_getElem? (i := 846) (by decide +kernel)) (by decide +kernel)
theorem kp_X9_left : Cond.initialized yX9_left.cls ∈ big ∧ (yX9_left.cls ≠ "java/lang/invoke/MethodHandle" ∧ yX9_left.cls ≠ "java/lang/invoke/VarHandle" ∧ (parseMethodDescriptor yX9_left.desc).map (fun d => d.parameters.length) = some 1) := ⟨mem_big (List.mem_of_getElem? (i := 137) (by decide +kernel)) (by decide +kernel), by decide +kernel⟩
theorem km_X9_30 : LkS RX9 30 yX9_left cX9_left 1 (some .int) 1 := ⟨⟨kd_X9_left, mem_big (List.mem_of_getElem? (i := 845) (by decide +kernel)) (by decide +kernel), kp_X9_left.1, kp_X9_left.2⟩, ks_X9_left⟩
theorem kd_X9_isSetZero : Cond.code yX9_isSetZero cX9_isSetZero 1 (some .boolean) ∈ big := mem_big (List.mem_of_getElem? (i := 850) (by decide +kernel)) (by decide +kernel)
theorem ks_X9_isSetZero : Cond.static yX9_isSetZero ∈ big := mem_big (List.mem_of_getElem? (i := 849) (by decide +kernel)) (by decide +kernel)
theorem kp_X9_isSetZero : Cond.initialized yX9_isSetZero.cls ∈ big ∧ (yX9_isSetZero.cls ≠ "java/lang/invoke/MethodHandle" ∧ yX9_isSetZero.cls ≠ "java/lang/invoke/VarHandle" ∧ (parseMethodDescriptor yX9_isSetZero.desc).map (fun d => d.parameters.length) = some 1) := ⟨mem_big (List.mem_of_getElem? (i := 137) (by decide +kernel)) (by decide +kernel), by decide +kernel⟩
theorem km_X9_34 : LkS RX9 34 yX9_isSetZero cX9_isSetZero 1 (some .boolean) 1 := ⟨⟨kd_X9_isSetZero, mem_big (List.mem_of_getElem? (i := 848) (by decide +kernel)) (by decide +kernel), kp_X9_isSetZero.1, kp_X9_isSetZero.2⟩, ks_X9_isSetZero⟩
theorem kd_X9_any : Cond.code yX9_any cX9_any 1 (some .int) ∈ big := mem_big (List.mem_of_getElem? (i := 853) (by decide +kernel)) (by decide +kernel)
theorem ks_X9_any : Cond.static yX9_any ∈ big := mem_big (List.mem_of_getElem? (i := 852) (by decide +kernel)) (by decide +kernel)
theorem kp_X9_any : Cond.initialized yX9_any.cls ∈ big ∧ (yX9_any.cls ≠ "java/lang/invoke/MethodHandle" ∧ yX9_any.cls ≠ "java/lang/invoke/VarHandle" ∧ (parseMethodDescriptor yX9_any.desc).map (fun d => d.parameters.length) = some 1) := ⟨mem_big (List.mem_of_getElem? (i := 137) (by decide +kernel)) (by decide +kernel), by decide +kernel⟩
theorem km_X9_38 : LkS RX9 38 yX9_any cX9_any 1 (some .int) 1 := ⟨⟨kd_X9_any, mem_big (List.mem_of_getElem? (i := 851) (by decide +kernel)) (by decide +kernel), kp_X9_any.1, kp_X9_any.2⟩, ks_X9_any⟩
theorem kd_X9_shadeOfEqual : Cond.code yX9_shadeOfEqual cX9_shadeOfEqual 4 (some .int) ∈ big := mem_big (List.mem_of_getElem? (i := 859) (by decide +kernel)) (by decide +kernel)
theorem ks_X9_shadeOfEqual : Cond.static yX9_shadeOfEqual ∈ big := mem_big (List.mem_of_getElem? (i := 858) (by decide +kernel)) (by decide +kernel)
theorem kp_X9_shadeOfEqual : Cond.initialized yX9_shadeOfEqual.cls ∈ big ∧ (yX9_shadeOfEqual.cls ≠ "java/lang/invoke/MethodHandle" ∧ yX9_shadeOfEqual.cls ≠ "java/lang/invoke/VarHandle" ∧ (parseMethodDescriptor yX9_shadeOfEqual.desc).map (fun d => d.parameters.length) = some 3) := ⟨mem_big (List.mem_of_getElem? (i := 137) (by decide +kernel)) (by decide +kernel), by decide +kernel⟩
theorem km_X9_44 : LkS RX9 44 yX9_shadeOfEqual cX9_shadeOfEqual 4 (some .int) 3 := ⟨⟨kd_X9_shadeOfEqual, mem_big (List.mem_of_getElem? (i := 857) (by decide +kernel)) (by decide +kernel), kp_X9_shadeOfEqual.1, kp_X9_shadeOfEqual.2⟩, ks_X9_shadeOfEqual⟩
theorem kd_X9_shadeOfBelow : Cond.code yX9_shadeOfBelow cX9_shadeOfBelow 8 (some .int) ∈ big := mem_big (List.mem_of_getElem? (i := 863) (by decide +kernel)) (by decide +kernel)
theorem ks_X9_shadeOfBelow : Cond.static yX9_shadeOfBelow ∈ big := mem_big (List.mem_of_getElem? (i := 862) (by decide +kernel)) (by decide +kernel)
theorem kp_X9_shadeOfBelow : Cond.initialized yX9_shadeOfBelow.cls ∈ big ∧ (yX9_shadeOfBelow.cls ≠ "java/lang/invoke/MethodHandle" ∧ yX9_shadeOfBelow.cls ≠ "java/lang/invoke/VarHandle" ∧ (parseMethodDescriptor yX9_shadeOfBelow.desc).map (fun d => d.parameters.length) = some 4) := ⟨mem_big (List.mem_of_getElem? (i := 137) (by decide +kernel)) (by decide +kernel), by decide +kernel⟩
theorem km_X9_51 : LkS RX9 51 yX9_shadeOfBelow cX9_shadeOfBelow 8 (some .int) 4 := ⟨⟨kd_X9_shadeOfBelow, mem_big (List.mem_of_getElem? (i := 861) (by decide +kernel)) (by decide +kernel), kp_X9_shadeOfBelow.1, kp_X9_shadeOfBelow.2⟩, ks_X9_shadeOfBelow⟩
theorem kd_X10_byteAt : Cond.code yX10_byteAt cX10_byteAt 2 (some .int) ∈ big := mem_big (List.mem_of_getElem? (i := 623) (by decide +kernel)) (by decide +kernel)
theorem ks_X10_byteAt : Cond.instanceMethod yX10_byteAt ∈ big ∧ Cond.selects yX10_byteAt.cls yX10_byteAt yX10_byteAt ∈ big := ⟨mem_big (List.mem_of_getElem? (i := 622) (by decide +kernel)) (by decide +kernel), mem_big (List.mem_of_getElem? (i := 4) (by decide +kernel)) (by decide +kernel)⟩
theorem kp_X10_byteAt : Cond.initialized yX10_byteAt.cls ∈ big ∧ (yX10_byteAt.cls ≠ "java/lang/invoke/MethodHandle" ∧ yX10_byteAt.cls ≠ "java/lang/invoke/VarHandle" ∧ (parseMethodDescriptor yX10_byteAt.desc).map (fun d => d.parameters.length) = some 1) := ⟨mem_big (List.mem_of_getElem? (i := 122) (by decide +kernel)) (by decide +kernel), by decide +kernel⟩
theorem km_X10_25 : LkV RX10 25 yX10_byteAt cX10_byteAt 2 (some .int) 1 := ⟨⟨kd_X10_byteAt, mem_big (List.mem_of_getElem? (i := 620) (by decide +kernel)) (by decide +kernel), kp_X10_byteAt.1, kp_X10_byteAt.2⟩, ks_X10_byteAt⟩
theorem kd_X10_isLetter : Cond.code yX10_isLetter cX10_isLetter 1 (some .boolean) ∈ big := mem_big (List.mem_of_getElem? (i := 626) (by decide +kernel)) (by decide +kernel)
theorem ks_X10_isLetter : Cond.static yX10_isLetter ∈ big := mem_big (List.mem_of_getElem? (i := 625) (by decide +kernel)) (by decide +kernel)
theorem kp_X10_isLetter : Cond.initialized yX10_isLetter.cls ∈ big ∧ (yX10_isLetter.cls ≠ "java/lang/invoke/MethodHandle" ∧ yX10_isLetter.cls ≠ "java/lang/invoke/VarHandle" ∧ (parseMethodDescriptor yX10_isLetter.desc).map (fun d => d.parameters.length) = some 1) := ⟨mem_big (List.mem_of_getElem? (i := 122) (by decide +kernel)) (by decide +kernel), by decide +kernel⟩
theorem km_X10_32 : LkS RX10 32 yX10_isLetter cX10_isLetter 1 (some .boolean) 1 := ⟨⟨kd_X10_isLetter, mem_big (List.mem_of_getElem? (i := 624) (by decide +kernel)) (by decide +kernel), kp_X10_isLetter.1, kp_X10_isLetter.2⟩, ks_X10_isLetter⟩
theorem kd_X10_readWord : Cond.code yX10_readWord cX10_readWord 1 none ∈ big := mem_big (List.mem_of_getElem? (i := 630) (by decide +kernel)) (by decide +kernel)
theorem ks_X10_readWord : Cond.instanceMethod yX10_readWord ∈ big ∧ Cond.selects yX10_readWord.cls yX10_readWord yX10_readWord ∈ big := ⟨mem_big (List.mem_of_getElem? (i := 629) (by decide +kernel)) (by decide +kernel), mem_big (List.mem_of_getElem? (i := 5) (by decide +kernel)) (by decide +kernel)⟩
theorem kp_X10_readWord : Cond.initialized yX10_readWord.cls ∈ big ∧ (yX10_readWord.cls ≠ "java/lang/invoke/MethodHandle" ∧ yX10_readWord.cls ≠ "java/lang/invoke/VarHandle" ∧ (parseMethodDescriptor yX10_readWord.desc).map (fun d => d.parameters.length) = some 0) := ⟨mem_big (List.mem_of_getElem? (i := 122) (by decide +kernel)) (by decide +kernel), by decide +kernel⟩
theorem km_X10_36 : LkV RX10 36 yX10_readWord cX10_readWord 1 none 0 := ⟨⟨kd_X10_readWord, mem_big (List.mem_of_getElem? (i := 627) (by decide +kernel)) (by decide +kernel), kp_X10_readWord.1, kp_X10_readWord.2⟩, ks_X10_readWord⟩
theorem kd_X10_isDigit : Cond.code yX10_isDigit cX10_isDigit 1 (some .boolean) ∈ big := mem_big (List.mem_of_getElem? (i := 633) (by decide +kernel)) (by decide +kernel)
theorem ks_X10_isDigit : Cond.static yX10_isDigit ∈ big := mem_big (List.mem_of_getElem? (i := 632) (by decide +kernel)) (by decide +kernel)
theorem kp_X10_isDigit : Cond.initialized yX10_isDigit.cls ∈ big ∧ (yX10_isDigit.cls ≠ "java/lang/invoke/MethodHandle" ∧ yX10_isDigit.cls ≠ "java/lang/invoke/VarHandle" ∧ (parseMethodDescriptor yX10_isDigit.desc).map (fun d => d.parameters.length) = some 1) := ⟨mem_big (List.mem_of_getElem? (i := 122) (by decide +kernel)) (by decide +kernel), by decide +kernel⟩
theorem km_X10_39 : LkS RX10 39 yX10_isDigit cX10_isDigit 1 (some .boolean) 1 := ⟨⟨kd_X10_isDigit, mem_big (List.mem_of_getElem? (i := 631) (by decide +kernel)) (by decide +kernel), kp_X10_isDigit.1, kp_X10_isDigit.2⟩, ks_X10_isDigit⟩
theorem kd_X10_readNumber : Cond.code yX10_readNumber cX10_readNumber 5 none ∈ big := mem_big (List.mem_of_getElem? (i := 637) (by decide +kernel)) (by decide +kernel)
theorem ks_X10_readNumber : Cond.instanceMethod yX10_readNumber ∈ big ∧ Cond.selects yX10_readNumber.cls yX10_readNumber yX10_readNumber ∈ big := ⟨mem_big (List.mem_of_getElem? (i := 636) (by decide +kernel)) (by decide +kernel), mem_big (List.mem_of_getElem? (i := 6) (by decide +kernel)) (by decide +kernel)⟩
theorem kp_X10_readNumber : Cond.initialized yX10_readNumber.cls ∈ big ∧ (yX10_readNumber.cls ≠ "java/lang/invoke/MethodHandle" ∧ yX10_readNumber.cls ≠ "java/lang/invoke/VarHandle" ∧ (parseMethodDescriptor yX10_readNumber.desc).map (fun d => d.parameters.length) = some 1) := ⟨mem_big (List.mem_of_getElem? (i := 122) (by decide +kernel)) (by decide +kernel), by decide +kernel⟩
theorem km_X10_42 : LkV RX10 42 yX10_readNumber cX10_readNumber 5 none 1 := ⟨⟨kd_X10_readNumber, mem_big (List.mem_of_getElem? (i := 634) (by decide +kernel)) (by decide +kernel), kp_X10_readNumber.1, kp_X10_readNumber.2⟩, ks_X10_readNumber⟩
theorem kd_X10_readHex : Cond.code yX10_readHex cX10_readHex 3 (some .boolean) ∈ big := mem_big (List.mem_of_getElem? (i := 641) (by decide +kernel)) (by decide +kernel)
theorem ks_X10_readHex : Cond.instanceMethod yX10_readHex ∈ big ∧ Cond.selects yX10_readHex.cls yX10_readHex yX10_readHex ∈ big := ⟨mem_big (List.mem_of_getElem? (i := 640) (by decide +kernel)) (by decide +kernel), mem_big (List.mem_of_getElem? (i := 7) (by decide +kernel)) (by decide +kernel)⟩
theorem kp_X10_readHex : Cond.initialized yX10_readHex.cls ∈ big ∧ (yX10_readHex.cls ≠ "java/lang/invoke/MethodHandle" ∧ yX10_readHex.cls ≠ "java/lang/invoke/VarHandle" ∧ (parseMethodDescriptor yX10_readHex.desc).map (fun d => d.parameters.length) = some 0) := ⟨mem_big (List.mem_of_getElem? (i := 122) (by decide +kernel)) (by decide +kernel), by decide +kernel⟩
theorem km_X10_50 : LkV RX10 50 yX10_readHex cX10_readHex 3 (some .boolean) 0 := ⟨⟨kd_X10_readHex, mem_big (List.mem_of_getElem? (i := 638) (by decide +kernel)) (by decide +kernel), kp_X10_readHex.1, kp_X10_readHex.2⟩, ks_X10_readHex⟩
theorem kd_X10_readDecimal : Cond.code yX10_readDecimal cX10_readDecimal 5 (some .boolean) ∈ big := mem_big (List.mem_of_getElem? (i := 648) (by decide +kernel)) (by decide +kernel)
theorem ks_X10_readDecimal : Cond.instanceMethod yX10_readDecimal ∈ big ∧ Cond.selects yX10_readDecimal.cls yX10_readDecimal yX10_readDecimal ∈ big := ⟨mem_big (List.mem_of_getElem? (i := 647) (by decide +kernel)) (by decide +kernel), mem_big (List.mem_of_getElem? (i := 8) (by decide +kernel)) (by decide +kernel)⟩
theorem kp_X10_readDecimal : Cond.initialized yX10_readDecimal.cls ∈ big ∧ (yX10_readDecimal.cls ≠ "java/lang/invoke/MethodHandle" ∧ yX10_readDecimal.cls ≠ "java/lang/invoke/VarHandle" ∧ (parseMethodDescriptor yX10_readDecimal.desc).map (fun d => d.parameters.length) = some 1) := ⟨mem_big (List.mem_of_getElem? (i := 122) (by decide +kernel)) (by decide +kernel), by decide +kernel⟩
theorem km_X10_54 : LkV RX10 54 yX10_readDecimal cX10_readDecimal 5 (some .boolean) 1 := ⟨⟨kd_X10_readDecimal, mem_big (List.mem_of_getElem? (i := 645) (by decide +kernel)) (by decide +kernel), kp_X10_readDecimal.1, kp_X10_readDecimal.2⟩, ks_X10_readDecimal⟩
theorem kd_X10_hexDigit : Cond.code yX10_hexDigit cX10_hexDigit 1 (some .int) ∈ big := mem_big (List.mem_of_getElem? (i := 644) (by decide +kernel)) (by decide +kernel)
theorem ks_X10_hexDigit : Cond.static yX10_hexDigit ∈ big := mem_big (List.mem_of_getElem? (i := 643) (by decide +kernel)) (by decide +kernel)
theorem kp_X10_hexDigit : Cond.initialized yX10_hexDigit.cls ∈ big ∧ (yX10_hexDigit.cls ≠ "java/lang/invoke/MethodHandle" ∧ yX10_hexDigit.cls ≠ "java/lang/invoke/VarHandle" ∧ (parseMethodDescriptor yX10_hexDigit.desc).map (fun d => d.parameters.length) = some 1) := ⟨mem_big (List.mem_of_getElem? (i := 122) (by decide +kernel)) (by decide +kernel), by decide +kernel⟩
theorem km_X10_58 : LkS RX10 58 yX10_hexDigit cX10_hexDigit 1 (some .int) 1 := ⟨⟨kd_X10_hexDigit, mem_big (List.mem_of_getElem? (i := 642) (by decide +kernel)) (by decide +kernel), kp_X10_hexDigit.1, kp_X10_hexDigit.2⟩, ks_X10_hexDigit⟩
theorem kd_X12_lateName : Cond.code yX12_lateName cX12_lateName 1 (some .long) ∈ big := mem_big (List.mem_of_getElem? (i := 1480) (by decide +kernel)) (by decide +kernel)
theorem ks_X12_lateName : Cond.static yX12_lateName ∈ big := mem_big (List.mem_of_getElem? (i := 1479) (by decide +kernel)) (by decide +kernel)
theorem kp_X12_lateName : Cond.initialized yX12_lateName.cls ∈ big ∧ (yX12_lateName.cls ≠ "java/lang/invoke/MethodHandle" ∧ yX12_lateName.cls ≠ "java/lang/invoke/VarHandle" ∧ (parseMethodDescriptor yX12_lateName.desc).map (fun d => d.parameters.length) = some 1) := ⟨mem_big (List.mem_of_getElem? (i := 134) (by decide +kernel)) (by decide +kernel), by decide +kernel⟩
theorem km_X12_215 : LkS RX12 215 yX12_lateName cX12_lateName 1 (some .long) 1 := ⟨⟨kd_X12_lateName, mem_big (List.mem_of_getElem? (i := 1478) (by decide +kernel)) (by decide +kernel), kp_X12_lateName.1, kp_X12_lateName.2⟩, ks_X12_lateName⟩
theorem kd_X12_isLetter : Cond.code yX12_isLetter cX12_isLetter 1 (some .boolean) ∈ big := mem_big (List.mem_of_getElem? (i := 1422) (by decide +kernel)) (by decide +kernel)
theorem ks_X12_isLetter : Cond.static yX12_isLetter ∈ big := mem_big (List.mem_of_getElem? (i := 1421) (by decide +kernel)) (by decide +kernel)
theorem kp_X12_isLetter : Cond.initialized yX12_isLetter.cls ∈ big ∧ (yX12_isLetter.cls ≠ "java/lang/invoke/MethodHandle" ∧ yX12_isLetter.cls ≠ "java/lang/invoke/VarHandle" ∧ (parseMethodDescriptor yX12_isLetter.desc).map (fun d => d.parameters.length) = some 1) := ⟨mem_big (List.mem_of_getElem? (i := 134) (by decide +kernel)) (by decide +kernel), by decide +kernel⟩
theorem km_X12_278 : LkS RX12 278 yX12_isLetter cX12_isLetter 1 (some .boolean) 1 := ⟨⟨kd_X12_isLetter, mem_big (List.mem_of_getElem? (i := 1420) (by decide +kernel)) (by decide +kernel), kp_X12_isLetter.1, kp_X12_isLetter.2⟩, ks_X12_isLetter⟩
theorem kd_X12_isDigit : Cond.code yX12_isDigit cX12_isDigit 1 (some .boolean) ∈ big := mem_big (List.mem_of_getElem? (i := 1428) (by decide +kernel)) (by decide +kernel)
theorem ks_X12_isDigit : Cond.static yX12_isDigit ∈ big := mem_big (List.mem_of_getElem? (i := 1427) (by decide +kernel)) (by decide +kernel)
theorem kp_X12_isDigit : Cond.initialized yX12_isDigit.cls ∈ big ∧ (yX12_isDigit.cls ≠ "java/lang/invoke/MethodHandle" ∧ yX12_isDigit.cls ≠ "java/lang/invoke/VarHandle" ∧ (parseMethodDescriptor yX12_isDigit.desc).map (fun d => d.parameters.length) = some 1) := ⟨mem_big (List.mem_of_getElem? (i := 134) (by decide +kernel)) (by decide +kernel), by decide +kernel⟩
theorem km_X12_282 : LkS RX12 282 yX12_isDigit cX12_isDigit 1 (some .boolean) 1 := ⟨⟨kd_X12_isDigit, mem_big (List.mem_of_getElem? (i := 1426) (by decide +kernel)) (by decide +kernel), kp_X12_isDigit.1, kp_X12_isDigit.2⟩, ks_X12_isDigit⟩
theorem kd_X12_sign : Cond.code yX12_sign cX12_sign 2 (some .int) ∈ big := mem_big (List.mem_of_getElem? (i := 1419) (by decide +kernel)) (by decide +kernel)
theorem ks_X12_sign : Cond.instanceMethod yX12_sign ∈ big ∧ Cond.selects yX12_sign.cls yX12_sign yX12_sign ∈ big := ⟨mem_big (List.mem_of_getElem? (i := 1418) (by decide +kernel)) (by decide +kernel), mem_big (List.mem_of_getElem? (i := 62) (by decide +kernel)) (by decide +kernel)⟩
theorem kp_X12_sign : Cond.initialized yX12_sign.cls ∈ big ∧ (yX12_sign.cls ≠ "java/lang/invoke/MethodHandle" ∧ yX12_sign.cls ≠ "java/lang/invoke/VarHandle" ∧ (parseMethodDescriptor yX12_sign.desc).map (fun d => d.parameters.length) = some 1) := ⟨mem_big (List.mem_of_getElem? (i := 134) (by decide +kernel)) (by decide +kernel), by decide +kernel⟩
theorem km_X12_291 : LkV RX12 291 yX12_sign cX12_sign 2 (some .int) 1 := ⟨⟨kd_X12_sign, mem_big (List.mem_of_getElem? (i := 1416) (by decide +kernel)) (by decide +kernel), kp_X12_sign.1, kp_X12_sign.2⟩, ks_X12_sign⟩
theorem kd_X12_isWordSign : Cond.code yX12_isWordSign cX12_isWordSign 1 (some .boolean) ∈ big := mem_big (List.mem_of_getElem? (i := 1425) (by decide +kernel)) (by decide +kernel)
theorem ks_X12_isWordSign : Cond.static yX12_isWordSign ∈ big := mem_big (List.mem_of_getElem? (i := 1424) (by decide +kernel)) (by decide +kernel)
theorem kp_X12_isWordSign : Cond.initialized yX12_isWordSign.cls ∈ big ∧ (yX12_isWordSign.cls ≠ "java/lang/invoke/MethodHandle" ∧ yX12_isWordSign.cls ≠ "java/lang/invoke/VarHandle" ∧ (parseMethodDescriptor yX12_isWordSign.desc).map (fun d => d.parameters.length) = some 1) := ⟨mem_big (List.mem_of_getElem? (i := 134) (by decide +kernel)) (by decide +kernel), by decide +kernel⟩
theorem km_X12_298 : LkS RX12 298 yX12_isWordSign cX12_isWordSign 1 (some .boolean) 1 := ⟨⟨kd_X12_isWordSign, mem_big (List.mem_of_getElem? (i := 1423) (by decide +kernel)) (by decide +kernel), kp_X12_isWordSign.1, kp_X12_isWordSign.2⟩, ks_X12_isWordSign⟩
theorem kd_X12_nextNumber : Cond.code yX12_nextNumber cX12_nextNumber 7 none ∈ big := mem_big (List.mem_of_getElem? (i := 1432) (by decide +kernel)) (by decide +kernel)
theorem ks_X12_nextNumber : Cond.instanceMethod yX12_nextNumber ∈ big ∧ Cond.selects yX12_nextNumber.cls yX12_nextNumber yX12_nextNumber ∈ big := ⟨mem_big (List.mem_of_getElem? (i := 1431) (by decide +kernel)) (by decide +kernel), mem_big (List.mem_of_getElem? (i := 63) (by decide +kernel)) (by decide +kernel)⟩
theorem kp_X12_nextNumber : Cond.initialized yX12_nextNumber.cls ∈ big ∧ (yX12_nextNumber.cls ≠ "java/lang/invoke/MethodHandle" ∧ yX12_nextNumber.cls ≠ "java/lang/invoke/VarHandle" ∧ (parseMethodDescriptor yX12_nextNumber.desc).map (fun d => d.parameters.length) = some 1) := ⟨mem_big (List.mem_of_getElem? (i := 134) (by decide +kernel)) (by decide +kernel), by decide +kernel⟩
theorem km_X12_301 : LkV RX12 301 yX12_nextNumber cX12_nextNumber 7 none 1 := ⟨⟨kd_X12_nextNumber, mem_big (List.mem_of_getElem? (i := 1429) (by decide +kernel)) (by decide +kernel), kp_X12_nextNumber.1, kp_X12_nextNumber.2⟩, ks_X12_nextNumber⟩
theorem kd_X12_fails : Cond.code yX12_fails cX12_fails 3 (some .boolean) ∈ big := mem_big (List.mem_of_getElem? (i := 1407) (by decide +kernel)) (by decide +kernel)
theorem ks_X12_fails : Cond.instanceMethod yX12_fails ∈ big ∧ Cond.selects yX12_fails.cls yX12_fails yX12_fails ∈ big := ⟨mem_big (List.mem_of_getElem? (i := 1406) (by decide +kernel)) (by decide +kernel), mem_big (List.mem_of_getElem? (i := 59) (by decide +kernel)) (by decide +kernel)⟩
theorem kp_X12_fails : Cond.initialized yX12_fails.cls ∈ big ∧ (yX12_fails.cls ≠ "java/lang/invoke/MethodHandle" ∧ yX12_fails.cls ≠ "java/lang/invoke/VarHandle" ∧ (parseMethodDescriptor yX12_fails.desc).map (fun d => d.parameters.length) = some 2) := ⟨mem_big (List.mem_of_getElem? (i := 134) (by decide +kernel)) (by decide +kernel), by decide +kernel⟩
theorem km_X12_316 : LkV RX12 316 yX12_fails cX12_fails 3 (some .boolean) 2 := ⟨⟨kd_X12_fails, mem_big (List.mem_of_getElem? (i := 1404) (by decide +kernel)) (by decide +kernel), kp_X12_fails.1, kp_X12_fails.2⟩, ks_X12_fails⟩
theorem kd_X12_name : Cond.code yX12_name cX12_name 1 (some .long) ∈ big := mem_big (List.mem_of_getElem? (i := 1451) (by decide +kernel)) (by decide +kernel)
theorem ks_X12_name : Cond.static yX12_name ∈ big := mem_big (List.mem_of_getElem? (i := 1450) (by decide +kernel)) (by decide +kernel)
theorem kp_X12_name : Cond.initialized yX12_name.cls ∈ big ∧ (yX12_name.cls ≠ "java/lang/invoke/MethodHandle" ∧ yX12_name.cls ≠ "java/lang/invoke/VarHandle" ∧ (parseMethodDescriptor yX12_name.desc).map (fun d => d.parameters.length) = some 1) := ⟨mem_big (List.mem_of_getElem? (i := 134) (by decide +kernel)) (by decide +kernel), by decide +kernel⟩
theorem km_X12_320 : LkS RX12 320 yX12_name cX12_name 1 (some .long) 1 := ⟨⟨kd_X12_name, mem_big (List.mem_of_getElem? (i := 1449) (by decide +kernel)) (by decide +kernel), kp_X12_name.1, kp_X12_name.2⟩, ks_X12_name⟩
theorem kd_X12_isSame : Cond.code yX12_isSame cX12_isSame 7 (some .boolean) ∈ big := mem_big (List.mem_of_getElem? (i := 1513) (by decide +kernel)) (by decide +kernel)
theorem ks_X12_isSame : Cond.instanceMethod yX12_isSame ∈ big ∧ Cond.selects yX12_isSame.cls yX12_isSame yX12_isSame ∈ big := ⟨mem_big (List.mem_of_getElem? (i := 1512) (by decide +kernel)) (by decide +kernel), mem_big (List.mem_of_getElem? (i := 68) (by decide +kernel)) (by decide +kernel)⟩
theorem kp_X12_isSame : Cond.initialized yX12_isSame.cls ∈ big ∧ (yX12_isSame.cls ≠ "java/lang/invoke/MethodHandle" ∧ yX12_isSame.cls ≠ "java/lang/invoke/VarHandle" ∧ (parseMethodDescriptor yX12_isSame.desc).map (fun d => d.parameters.length) = some 4) := ⟨mem_big (List.mem_of_getElem? (i := 134) (by decide +kernel)) (by decide +kernel), by decide +kernel⟩
theorem km_X12_326 : LkV RX12 326 yX12_isSame cX12_isSame 7 (some .boolean) 4 := ⟨⟨kd_X12_isSame, mem_big (List.mem_of_getElem? (i := 1510) (by decide +kernel)) (by decide +kernel), kp_X12_isSame.1, kp_X12_isSame.2⟩, ks_X12_isSame⟩
theorem kd_X12_next : Cond.code yX12_next cX12_next 2 none ∈ big := mem_big (List.mem_of_getElem? (i := 1415) (by decide +kernel)) (by decide +kernel)
theorem ks_X12_next : Cond.instanceMethod yX12_next ∈ big ∧ Cond.selects yX12_next.cls yX12_next yX12_next ∈ big := ⟨mem_big (List.mem_of_getElem? (i := 1414) (by decide +kernel)) (by decide +kernel), mem_big (List.mem_of_getElem? (i := 61) (by decide +kernel)) (by decide +kernel)⟩
theorem kp_X12_next : Cond.initialized yX12_next.cls ∈ big ∧ (yX12_next.cls ≠ "java/lang/invoke/MethodHandle" ∧ yX12_next.cls ≠ "java/lang/invoke/VarHandle" ∧ (parseMethodDescriptor yX12_next.desc).map (fun d => d.parameters.length) = some 0) := ⟨mem_big (List.mem_of_getElem? (i := 134) (by decide +kernel)) (by decide +kernel), by decide +kernel⟩
theorem km_X12_330 : LkV RX12 330 yX12_next cX12_next 2 none 0 := ⟨⟨kd_X12_next, mem_big (List.mem_of_getElem? (i := 1412) (by decide +kernel)) (by decide +kernel), kp_X12_next.1, kp_X12_next.2⟩, ks_X12_next⟩
theorem kd_X12_named : Cond.code yX12_named cX12_named 1 (some .int) ∈ big := mem_big (List.mem_of_getElem? (i := 1440) (by decide +kernel)) (by decide +kernel)
theorem ks_X12_named : Cond.instanceMethod yX12_named ∈ big ∧ Cond.selects yX12_named.cls yX12_named yX12_named ∈ big := ⟨mem_big (List.mem_of_getElem? (i := 1439) (by decide +kernel)) (by decide +kernel), mem_big (List.mem_of_getElem? (i := 64) (by decide +kernel)) (by decide +kernel)⟩
theorem kp_X12_named : Cond.initialized yX12_named.cls ∈ big ∧ (yX12_named.cls ≠ "java/lang/invoke/MethodHandle" ∧ yX12_named.cls ≠ "java/lang/invoke/VarHandle" ∧ (parseMethodDescriptor yX12_named.desc).map (fun d => d.parameters.length) = some 0) := ⟨mem_big (List.mem_of_getElem? (i := 134) (by decide +kernel)) (by decide +kernel), by decide +kernel⟩
theorem km_X12_333 : LkV RX12 333 yX12_named cX12_named 1 (some .int) 0 := ⟨⟨kd_X12_named, mem_big (List.mem_of_getElem? (i := 1437) (by decide +kernel)) (by decide +kernel), kp_X12_named.1, kp_X12_named.2⟩, ks_X12_named⟩
theorem kd_X12_wrong : Cond.code yX12_wrong cX12_wrong 1 (some .boolean) ∈ big := mem_big (List.mem_of_getElem? (i := 1444) (by decide +kernel)) (by decide +kernel)
theorem ks_X12_wrong : Cond.instanceMethod yX12_wrong ∈ big ∧ Cond.selects yX12_wrong.cls yX12_wrong yX12_wrong ∈ big := ⟨mem_big (List.mem_of_getElem? (i := 1443) (by decide +kernel)) (by decide +kernel), mem_big (List.mem_of_getElem? (i := 65) (by decide +kernel)) (by decide +kernel)⟩
theorem kp_X12_wrong : Cond.initialized yX12_wrong.cls ∈ big ∧ (yX12_wrong.cls ≠ "java/lang/invoke/MethodHandle" ∧ yX12_wrong.cls ≠ "java/lang/invoke/VarHandle" ∧ (parseMethodDescriptor yX12_wrong.desc).map (fun d => d.parameters.length) = some 0) := ⟨mem_big (List.mem_of_getElem? (i := 134) (by decide +kernel)) (by decide +kernel), by decide +kernel⟩
theorem km_X12_337 : LkV RX12 337 yX12_wrong cX12_wrong 1 (some .boolean) 0 := ⟨⟨kd_X12_wrong, mem_big (List.mem_of_getElem? (i := 1441) (by decide +kernel)) (by decide +kernel), kp_X12_wrong.1, kp_X12_wrong.2⟩, ks_X12_wrong⟩
theorem kd_X12_instruction : Cond.code yX12_instruction cX12_instruction 4 (some .int) ∈ big := mem_big (List.mem_of_getElem? (i := 1448) (by decide +kernel)) (by decide +kernel)
theorem ks_X12_instruction : Cond.instanceMethod yX12_instruction ∈ big ∧ Cond.selects yX12_instruction.cls yX12_instruction yX12_instruction ∈ big := ⟨mem_big (List.mem_of_getElem? (i := 1447) (by decide +kernel)) (by decide +kernel), mem_big (List.mem_of_getElem? (i := 66) (by decide +kernel)) (by decide +kernel)⟩
theorem kp_X12_instruction : Cond.initialized yX12_instruction.cls ∈ big ∧ (yX12_instruction.cls ≠ "java/lang/invoke/MethodHandle" ∧ yX12_instruction.cls ≠ "java/lang/invoke/VarHandle" ∧ (parseMethodDescriptor yX12_instruction.desc).map (fun d => d.parameters.length) = some 0) := ⟨mem_big (List.mem_of_getElem? (i := 134) (by decide +kernel)) (by decide +kernel), by decide +kernel⟩
theorem km_X12_341 : LkV RX12 341 yX12_instruction cX12_instruction 4 (some .int) 0 := ⟨⟨kd_X12_instruction, mem_big (List.mem_of_getElem? (i := 1445) (by decide +kernel)) (by decide +kernel), kp_X12_instruction.1, kp_X12_instruction.2⟩, ks_X12_instruction⟩
theorem kd_X12_labelOf : Cond.code yX12_labelOf cX12_labelOf 4 (some .int) ∈ big := mem_big (List.mem_of_getElem? (i := 1509) (by decide +kernel)) (by decide +kernel)
theorem ks_X12_labelOf : Cond.instanceMethod yX12_labelOf ∈ big ∧ Cond.selects yX12_labelOf.cls yX12_labelOf yX12_labelOf ∈ big := ⟨mem_big (List.mem_of_getElem? (i := 1508) (by decide +kernel)) (by decide +kernel), mem_big (List.mem_of_getElem? (i := 67) (by decide +kernel)) (by decide +kernel)⟩
theorem kp_X12_labelOf : Cond.initialized yX12_labelOf.cls ∈ big ∧ (yX12_labelOf.cls ≠ "java/lang/invoke/MethodHandle" ∧ yX12_labelOf.cls ≠ "java/lang/invoke/VarHandle" ∧ (parseMethodDescriptor yX12_labelOf.desc).map (fun d => d.parameters.length) = some 2) := ⟨mem_big (List.mem_of_getElem? (i := 134) (by decide +kernel)) (by decide +kernel), by decide +kernel⟩
theorem km_X12_344 : LkV RX12 344 yX12_labelOf cX12_labelOf 4 (some .int) 2 := ⟨⟨kd_X12_labelOf, mem_big (List.mem_of_getElem? (i := 1506) (by decide +kernel)) (by decide +kernel), kp_X12_labelOf.1, kp_X12_labelOf.2⟩, ks_X12_labelOf⟩
theorem kd_X12_readOrder : Cond.code yX12_readOrder cX12_readOrder 7 none ∈ big := mem_big (List.mem_of_getElem? (i := 1517) (by decide +kernel)) (by decide +kernel)
theorem ks_X12_readOrder : Cond.instanceMethod yX12_readOrder ∈ big ∧ Cond.selects yX12_readOrder.cls yX12_readOrder yX12_readOrder ∈ big := ⟨mem_big (List.mem_of_getElem? (i := 1516) (by decide +kernel)) (by decide +kernel), mem_big (List.mem_of_getElem? (i := 69) (by decide +kernel)) (by decide +kernel)⟩
theorem kp_X12_readOrder : Cond.initialized yX12_readOrder.cls ∈ big ∧ (yX12_readOrder.cls ≠ "java/lang/invoke/MethodHandle" ∧ yX12_readOrder.cls ≠ "java/lang/invoke/VarHandle" ∧ (parseMethodDescriptor yX12_readOrder.desc).map (fun d => d.parameters.length) = some 1) := ⟨mem_big (List.mem_of_getElem? (i := 134) (by decide +kernel)) (by decide +kernel), by decide +kernel⟩
theorem km_X12_351 : LkV RX12 351 yX12_readOrder cX12_readOrder 7 none 1 := ⟨⟨kd_X12_readOrder, mem_big (List.mem_of_getElem? (i := 1514) (by decide +kernel)) (by decide +kernel), kp_X12_readOrder.1, kp_X12_readOrder.2⟩, ks_X12_readOrder⟩
theorem kd_X12_form : Cond.code yX12_form cX12_form 1 (some .int) ∈ big := mem_big (List.mem_of_getElem? (i := 1520) (by decide +kernel)) (by decide +kernel)
theorem ks_X12_form : Cond.static yX12_form ∈ big := mem_big (List.mem_of_getElem? (i := 1519) (by decide +kernel)) (by decide +kernel)
theorem kp_X12_form : Cond.initialized yX12_form.cls ∈ big ∧ (yX12_form.cls ≠ "java/lang/invoke/MethodHandle" ∧ yX12_form.cls ≠ "java/lang/invoke/VarHandle" ∧ (parseMethodDescriptor yX12_form.desc).map (fun d => d.parameters.length) = some 1) := ⟨mem_big (List.mem_of_getElem? (i := 134) (by decide +kernel)) (by decide +kernel), by decide +kernel⟩
theorem km_X12_358 : LkS RX12 358 yX12_form cX12_form 1 (some .int) 1 := ⟨⟨kd_X12_form, mem_big (List.mem_of_getElem? (i := 1518) (by decide +kernel)) (by decide +kernel), kp_X12_form.1, kp_X12_form.2⟩, ks_X12_form⟩
theorem kd_X12_readOperand : Cond.code yX12_readOperand cX12_readOperand 4 none ∈ big := mem_big (List.mem_of_getElem? (i := 1524) (by decide +kernel)) (by decide +kernel)
theorem ks_X12_readOperand : Cond.instanceMethod yX12_readOperand ∈ big ∧ Cond.selects yX12_readOperand.cls yX12_readOperand yX12_readOperand ∈ big := ⟨mem_big (List.mem_of_getElem? (i := 1523) (by decide +kernel)) (by decide +kernel), mem_big (List.mem_of_getElem? (i := 70) (by decide +kernel)) (by decide +kernel)⟩
theorem kp_X12_readOperand : Cond.initialized yX12_readOperand.cls ∈ big ∧ (yX12_readOperand.cls ≠ "java/lang/invoke/MethodHandle" ∧ yX12_readOperand.cls ≠ "java/lang/invoke/VarHandle" ∧ (parseMethodDescriptor yX12_readOperand.desc).map (fun d => d.parameters.length) = some 2) := ⟨mem_big (List.mem_of_getElem? (i := 134) (by decide +kernel)) (by decide +kernel), by decide +kernel⟩
theorem km_X12_361 : LkV RX12 361 yX12_readOperand cX12_readOperand 4 none 2 := ⟨⟨kd_X12_readOperand, mem_big (List.mem_of_getElem? (i := 1521) (by decide +kernel)) (by decide +kernel), kp_X12_readOperand.1, kp_X12_readOperand.2⟩, ks_X12_readOperand⟩
theorem kd_X12_tooMuch : Cond.code yX12_tooMuch cX12_tooMuch 4 (some .int) ∈ big := mem_big (List.mem_of_getElem? (i := 1403) (by decide +kernel)) (by decide +kernel)
theorem ks_X12_tooMuch : Cond.instanceMethod yX12_tooMuch ∈ big ∧ Cond.selects yX12_tooMuch.cls yX12_tooMuch yX12_tooMuch ∈ big := ⟨mem_big (List.mem_of_getElem? (i := 1402) (by decide +kernel)) (by decide +kernel), mem_big (List.mem_of_getElem? (i := 58) (by decide +kernel)) (by decide +kernel)⟩
theorem kp_X12_tooMuch : Cond.initialized yX12_tooMuch.cls ∈ big ∧ (yX12_tooMuch.cls ≠ "java/lang/invoke/MethodHandle" ∧ yX12_tooMuch.cls ≠ "java/lang/invoke/VarHandle" ∧ (parseMethodDescriptor yX12_tooMuch.desc).map (fun d => d.parameters.length) = some 0) := ⟨mem_big (List.mem_of_getElem? (i := 134) (by decide +kernel)) (by decide +kernel), by decide +kernel⟩
theorem km_X12_371 : LkV RX12 371 yX12_tooMuch cX12_tooMuch 4 (some .int) 0 := ⟨⟨kd_X12_tooMuch, mem_big (List.mem_of_getElem? (i := 1400) (by decide +kernel)) (by decide +kernel), kp_X12_tooMuch.1, kp_X12_tooMuch.2⟩, ks_X12_tooMuch⟩
theorem kd_X12_readLine : Cond.code yX12_readLine cX12_readLine 4 none ∈ big := mem_big (List.mem_of_getElem? (i := 1411) (by decide +kernel)) (by decide +kernel)
theorem ks_X12_readLine : Cond.instanceMethod yX12_readLine ∈ big ∧ Cond.selects yX12_readLine.cls yX12_readLine yX12_readLine ∈ big := ⟨mem_big (List.mem_of_getElem? (i := 1410) (by decide +kernel)) (by decide +kernel), mem_big (List.mem_of_getElem? (i := 60) (by decide +kernel)) (by decide +kernel)⟩
theorem kp_X12_readLine : Cond.initialized yX12_readLine.cls ∈ big ∧ (yX12_readLine.cls ≠ "java/lang/invoke/MethodHandle" ∧ yX12_readLine.cls ≠ "java/lang/invoke/VarHandle" ∧ (parseMethodDescriptor yX12_readLine.desc).map (fun d => d.parameters.length) = some 0) := ⟨mem_big (List.mem_of_getElem? (i := 134) (by decide +kernel)) (by decide +kernel), by decide +kernel⟩
theorem km_X12_374 : LkV RX12 374 yX12_readLine cX12_readLine 4 none 0 := ⟨⟨kd_X12_readLine, mem_big (List.mem_of_getElem? (i := 1408) (by decide +kernel)) (by decide +kernel), kp_X12_readLine.1, kp_X12_readLine.2⟩, ks_X12_readLine⟩
theorem kd_X12_start : Cond.code yX12_start cX12_start 6 none ∈ big := mem_big (List.mem_of_getElem? (i := 1528) (by decide +kernel)) (by decide +kernel)
theorem ks_X12_start : Cond.instanceMethod yX12_start ∈ big ∧ Cond.selects yX12_start.cls yX12_start yX12_start ∈ big := ⟨mem_big (List.mem_of_getElem? (i := 1527) (by decide +kernel)) (by decide +kernel), mem_big (List.mem_of_getElem? (i := 71) (by decide +kernel)) (by decide +kernel)⟩
theorem kp_X12_start : Cond.initialized yX12_start.cls ∈ big ∧ (yX12_start.cls ≠ "java/lang/invoke/MethodHandle" ∧ yX12_start.cls ≠ "java/lang/invoke/VarHandle" ∧ (parseMethodDescriptor yX12_start.desc).map (fun d => d.parameters.length) = some 3) := ⟨mem_big (List.mem_of_getElem? (i := 134) (by decide +kernel)) (by decide +kernel), by decide +kernel⟩
theorem km_X12_390 : LkV RX12 390 yX12_start cX12_start 6 none 3 := ⟨⟨kd_X12_start, mem_big (List.mem_of_getElem? (i := 1525) (by decide +kernel)) (by decide +kernel), kp_X12_start.1, kp_X12_start.2⟩, ks_X12_start⟩
theorem kd_X12_drawn : Cond.code yX12_drawn cX12_drawn 1 (some .int) ∈ big := mem_big (List.mem_of_getElem? (i := 1532) (by decide +kernel)) (by decide +kernel)
theorem ks_X12_drawn : Cond.instanceMethod yX12_drawn ∈ big ∧ Cond.selects yX12_drawn.cls yX12_drawn yX12_drawn ∈ big := ⟨mem_big (List.mem_of_getElem? (i := 1531) (by decide +kernel)) (by decide +kernel), mem_big (List.mem_of_getElem? (i := 72) (by decide +kernel)) (by decide +kernel)⟩
theorem kp_X12_drawn : Cond.initialized yX12_drawn.cls ∈ big ∧ (yX12_drawn.cls ≠ "java/lang/invoke/MethodHandle" ∧ yX12_drawn.cls ≠ "java/lang/invoke/VarHandle" ∧ (parseMethodDescriptor yX12_drawn.desc).map (fun d => d.parameters.length) = some 0) := ⟨mem_big (List.mem_of_getElem? (i := 134) (by decide +kernel)) (by decide +kernel), by decide +kernel⟩
theorem km_X12_415 : LkV RX12 415 yX12_drawn cX12_drawn 1 (some .int) 0 := ⟨⟨kd_X12_drawn, mem_big (List.mem_of_getElem? (i := 1529) (by decide +kernel)) (by decide +kernel), kp_X12_drawn.1, kp_X12_drawn.2⟩, ks_X12_drawn⟩
theorem kd_X12_trap : Cond.code yX12_trap cX12_trap 2 none ∈ big := mem_big (List.mem_of_getElem? (i := 1599) (by decide +kernel)) (by decide +kernel)
theorem ks_X12_trap : Cond.instanceMethod yX12_trap ∈ big ∧ Cond.selects yX12_trap.cls yX12_trap yX12_trap ∈ big := ⟨mem_big (List.mem_of_getElem? (i := 1598) (by decide +kernel)) (by decide +kernel), mem_big (List.mem_of_getElem? (i := 81) (by decide +kernel)) (by decide +kernel)⟩
theorem kp_X12_trap : Cond.initialized yX12_trap.cls ∈ big ∧ (yX12_trap.cls ≠ "java/lang/invoke/MethodHandle" ∧ yX12_trap.cls ≠ "java/lang/invoke/VarHandle" ∧ (parseMethodDescriptor yX12_trap.desc).map (fun d => d.parameters.length) = some 1) := ⟨mem_big (List.mem_of_getElem? (i := 134) (by decide +kernel)) (by decide +kernel), by decide +kernel⟩
theorem km_X12_423 : LkV RX12 423 yX12_trap cX12_trap 2 none 1 := ⟨⟨kd_X12_trap, mem_big (List.mem_of_getElem? (i := 1596) (by decide +kernel)) (by decide +kernel), kp_X12_trap.1, kp_X12_trap.2⟩, ks_X12_trap⟩
theorem kd_X12_unset : Cond.code yX12_unset cX12_unset 4 none ∈ big := mem_big (List.mem_of_getElem? (i := 1603) (by decide +kernel)) (by decide +kernel)
theorem ks_X12_unset : Cond.instanceMethod yX12_unset ∈ big ∧ Cond.selects yX12_unset.cls yX12_unset yX12_unset ∈ big := ⟨mem_big (List.mem_of_getElem? (i := 1602) (by decide +kernel)) (by decide +kernel), mem_big (List.mem_of_getElem? (i := 82) (by decide +kernel)) (by decide +kernel)⟩
theorem kp_X12_unset : Cond.initialized yX12_unset.cls ∈ big ∧ (yX12_unset.cls ≠ "java/lang/invoke/MethodHandle" ∧ yX12_unset.cls ≠ "java/lang/invoke/VarHandle" ∧ (parseMethodDescriptor yX12_unset.desc).map (fun d => d.parameters.length) = some 2) := ⟨mem_big (List.mem_of_getElem? (i := 134) (by decide +kernel)) (by decide +kernel), by decide +kernel⟩
theorem km_X12_426 : LkV RX12 426 yX12_unset cX12_unset 4 none 2 := ⟨⟨kd_X12_unset, mem_big (List.mem_of_getElem? (i := 1600) (by decide +kernel)) (by decide +kernel), kp_X12_unset.1, kp_X12_unset.2⟩, ks_X12_unset⟩
theorem kd_X12_below : Cond.code yX12_below cX12_below 2 (some .boolean) ∈ big := mem_big (List.mem_of_getElem? (i := 1628) (by decide +kernel)) (by decide +kernel)
theorem ks_X12_below : Cond.static yX12_below ∈ big := mem_big (List.mem_of_getElem? (i := 1627) (by decide +kernel)) (by decide +kernel)
theorem kp_X12_below : Cond.initialized yX12_below.cls ∈ big ∧ (yX12_below.cls ≠ "java/lang/invoke/MethodHandle" ∧ yX12_below.cls ≠ "java/lang/invoke/VarHandle" ∧ (parseMethodDescriptor yX12_below.desc).map (fun d => d.parameters.length) = some 2) := ⟨mem_big (List.mem_of_getElem? (i := 134) (by decide +kernel)) (by decide +kernel), by decide +kernel⟩
theorem km_X12_430 : LkS RX12 430 yX12_below cX12_below 2 (some .boolean) 2 := ⟨⟨kd_X12_below, mem_big (List.mem_of_getElem? (i := 1626) (by decide +kernel)) (by decide +kernel), kp_X12_below.1, kp_X12_below.2⟩, ks_X12_below⟩
theorem kd_X12_shifted : Cond.code yX12_shifted cX12_shifted 3 (some .int) ∈ big := mem_big (List.mem_of_getElem? (i := 1616) (by decide +kernel)) (by decide +kernel)
theorem ks_X12_shifted : Cond.static yX12_shifted ∈ big := mem_big (List.mem_of_getElem? (i := 1615) (by decide +kernel)) (by decide +kernel)
theorem kp_X12_shifted : Cond.initialized yX12_shifted.cls ∈ big ∧ (yX12_shifted.cls ≠ "java/lang/invoke/MethodHandle" ∧ yX12_shifted.cls ≠ "java/lang/invoke/VarHandle" ∧ (parseMethodDescriptor yX12_shifted.desc).map (fun d => d.parameters.length) = some 3) := ⟨mem_big (List.mem_of_getElem? (i := 134) (by decide +kernel)) (by decide +kernel), by decide +kernel⟩
theorem km_X12_433 : LkS RX12 433 yX12_shifted cX12_shifted 3 (some .int) 3 := ⟨⟨kd_X12_shifted, mem_big (List.mem_of_getElem? (i := 1614) (by decide +kernel)) (by decide +kernel), kp_X12_shifted.1, kp_X12_shifted.2⟩, ks_X12_shifted⟩
theorem kd_X12_left : Cond.code yX12_left cX12_left 1 (some .int) ∈ big := mem_big (List.mem_of_getElem? (i := 1610) (by decide +kernel)) (by decide +kernel)
theorem ks_X12_left : Cond.static yX12_left ∈ big := mem_big (List.mem_of_getElem? (i := 1609) (by decide +kernel)) (by decide +kernel)
theorem kp_X12_left : Cond.initialized yX12_left.cls ∈ big ∧ (yX12_left.cls ≠ "java/lang/invoke/MethodHandle" ∧ yX12_left.cls ≠ "java/lang/invoke/VarHandle" ∧ (parseMethodDescriptor yX12_left.desc).map (fun d => d.parameters.length) = some 1) := ⟨mem_big (List.mem_of_getElem? (i := 134) (by decide +kernel)) (by decide +kernel), by decide +kernel⟩
theorem km_X12_437 : LkS RX12 437 yX12_left cX12_left 1 (some .int) 1 := ⟨⟨kd_X12_left, mem_big (List.mem_of_getElem? (i := 1608) (by decide +kernel)) (by decide +kernel), kp_X12_left.1, kp_X12_left.2⟩, ks_X12_left⟩
theorem kd_X12_any : Cond.code yX12_any cX12_any 1 (some .int) ∈ big := mem_big (List.mem_of_getElem? (i := 1613) (by decide +kernel)) (by decide +kernel)
theorem ks_X12_any : Cond.static yX12_any ∈ big := mem_big (List.mem_of_getElem? (i := 1612) (by decide +kernel)) (by decide +kernel)
theorem kp_X12_any : Cond.initialized yX12_any.cls ∈ big ∧ (yX12_any.cls ≠ "java/lang/invoke/MethodHandle" ∧ yX12_any.cls ≠ "java/lang/invoke/VarHandle" ∧ (parseMethodDescriptor yX12_any.desc).map (fun d => d.parameters.length) = some 1) := ⟨mem_big (List.mem_of_getElem? (i := 134) (by decide +kernel)) (by decide +kernel), by decide +kernel⟩
theorem km_X12_440 : LkS RX12 440 yX12_any cX12_any 1 (some .int) 1 := ⟨⟨kd_X12_any, mem_big (List.mem_of_getElem? (i := 1611) (by decide +kernel)) (by decide +kernel), kp_X12_any.1, kp_X12_any.2⟩, ks_X12_any⟩
theorem kd_X12_equalShade : Cond.code yX12_equalShade cX12_equalShade 5 (some .int) ∈ big := mem_big (List.mem_of_getElem? (i := 1620) (by decide +kernel)) (by decide +kernel)
theorem ks_X12_equalShade : Cond.instanceMethod yX12_equalShade ∈ big ∧ Cond.selects yX12_equalShade.cls yX12_equalShade yX12_equalShade ∈ big := ⟨mem_big (List.mem_of_getElem? (i := 1619) (by decide +kernel)) (by decide +kernel), mem_big (List.mem_of_getElem? (i := 84) (by decide +kernel)) (by decide +kernel)⟩
theorem kp_X12_equalShade : Cond.initialized yX12_equalShade.cls ∈ big ∧ (yX12_equalShade.cls ≠ "java/lang/invoke/MethodHandle" ∧ yX12_equalShade.cls ≠ "java/lang/invoke/VarHandle" ∧ (parseMethodDescriptor yX12_equalShade.desc).map (fun d => d.parameters.length) = some 4) := ⟨mem_big (List.mem_of_getElem? (i := 134) (by decide +kernel)) (by decide +kernel), by decide +kernel⟩
theorem km_X12_443 : LkV RX12 443 yX12_equalShade cX12_equalShade 5 (some .int) 4 := ⟨⟨kd_X12_equalShade, mem_big (List.mem_of_getElem? (i := 1617) (by decide +kernel)) (by decide +kernel), kp_X12_equalShade.1, kp_X12_equalShade.2⟩, ks_X12_equalShade⟩
theorem kd_X12_lessShade : Cond.code yX12_lessShade cX12_lessShade 8 (some .int) ∈ big := mem_big (List.mem_of_getElem? (i := 1624) (by decide +kernel)) (by decide +kernel)
theorem ks_X12_lessShade : Cond.instanceMethod yX12_lessShade ∈ big ∧ Cond.selects yX12_lessShade.cls yX12_lessShade yX12_lessShade ∈ big := ⟨mem_big (List.mem_of_getElem? (i := 1623) (by decide +kernel)) (by decide +kernel), mem_big (List.mem_of_getElem? (i := 85) (by decide +kernel)) (by decide +kernel)⟩
theorem kp_X12_lessShade : Cond.initialized yX12_lessShade.cls ∈ big ∧ (yX12_lessShade.cls ≠ "java/lang/invoke/MethodHandle" ∧ yX12_lessShade.cls ≠ "java/lang/invoke/VarHandle" ∧ (parseMethodDescriptor yX12_lessShade.desc).map (fun d => d.parameters.length) = some 5) := ⟨mem_big (List.mem_of_getElem? (i := 134) (by decide +kernel)) (by decide +kernel), by decide +kernel⟩
theorem km_X12_447 : LkV RX12 447 yX12_lessShade cX12_lessShade 8 (some .int) 5 := ⟨⟨kd_X12_lessShade, mem_big (List.mem_of_getElem? (i := 1621) (by decide +kernel)) (by decide +kernel), kp_X12_lessShade.1, kp_X12_lessShade.2⟩, ks_X12_lessShade⟩
theorem kd_X12_value : Cond.code yX12_value cX12_value 2 (some .int) ∈ big := mem_big (List.mem_of_getElem? (i := 1583) (by decide +kernel)) (by decide +kernel)
theorem ks_X12_value : Cond.instanceMethod yX12_value ∈ big ∧ Cond.selects yX12_value.cls yX12_value yX12_value ∈ big := ⟨mem_big (List.mem_of_getElem? (i := 1582) (by decide +kernel)) (by decide +kernel), mem_big (List.mem_of_getElem? (i := 77) (by decide +kernel)) (by decide +kernel)⟩
theorem kp_X12_value : Cond.initialized yX12_value.cls ∈ big ∧ (yX12_value.cls ≠ "java/lang/invoke/MethodHandle" ∧ yX12_value.cls ≠ "java/lang/invoke/VarHandle" ∧ (parseMethodDescriptor yX12_value.desc).map (fun d => d.parameters.length) = some 1) := ⟨mem_big (List.mem_of_getElem? (i := 134) (by decide +kernel)) (by decide +kernel), by decide +kernel⟩
theorem km_X12_451 : LkV RX12 451 yX12_value cX12_value 2 (some .int) 1 := ⟨⟨kd_X12_value, mem_big (List.mem_of_getElem? (i := 1580) (by decide +kernel)) (by decide +kernel), kp_X12_value.1, kp_X12_value.2⟩, ks_X12_value⟩
theorem kd_X12_shade : Cond.code yX12_shade cX12_shade 2 (some .int) ∈ big := mem_big (List.mem_of_getElem? (i := 1587) (by decide +kernel)) (by decide +kernel)
theorem ks_X12_shade : Cond.instanceMethod yX12_shade ∈ big ∧ Cond.selects yX12_shade.cls yX12_shade yX12_shade ∈ big := ⟨mem_big (List.mem_of_getElem? (i := 1586) (by decide +kernel)) (by decide +kernel), mem_big (List.mem_of_getElem? (i := 78) (by decide +kernel)) (by decide +kernel)⟩
theorem kp_X12_shade : Cond.initialized yX12_shade.cls ∈ big ∧ (yX12_shade.cls ≠ "java/lang/invoke/MethodHandle" ∧ yX12_shade.cls ≠ "java/lang/invoke/VarHandle" ∧ (parseMethodDescriptor yX12_shade.desc).map (fun d => d.parameters.length) = some 1) := ⟨mem_big (List.mem_of_getElem? (i := 134) (by decide +kernel)) (by decide +kernel), by decide +kernel⟩
theorem km_X12_454 : LkV RX12 454 yX12_shade cX12_shade 2 (some .int) 1 := ⟨⟨kd_X12_shade, mem_big (List.mem_of_getElem? (i := 1584) (by decide +kernel)) (by decide +kernel), kp_X12_shade.1, kp_X12_shade.2⟩, ks_X12_shade⟩
theorem kd_X12_origin : Cond.code yX12_origin cX12_origin 2 (some .int) ∈ big := mem_big (List.mem_of_getElem? (i := 1591) (by decide +kernel)) (by decide +kernel)
theorem ks_X12_origin : Cond.instanceMethod yX12_origin ∈ big ∧ Cond.selects yX12_origin.cls yX12_origin yX12_origin ∈ big := ⟨mem_big (List.mem_of_getElem? (i := 1590) (by decide +kernel)) (by decide +kernel), mem_big (List.mem_of_getElem? (i := 79) (by decide +kernel)) (by decide +kernel)⟩
theorem kp_X12_origin : Cond.initialized yX12_origin.cls ∈ big ∧ (yX12_origin.cls ≠ "java/lang/invoke/MethodHandle" ∧ yX12_origin.cls ≠ "java/lang/invoke/VarHandle" ∧ (parseMethodDescriptor yX12_origin.desc).map (fun d => d.parameters.length) = some 1) := ⟨mem_big (List.mem_of_getElem? (i := 134) (by decide +kernel)) (by decide +kernel), by decide +kernel⟩
theorem km_X12_457 : LkV RX12 457 yX12_origin cX12_origin 2 (some .int) 1 := ⟨⟨kd_X12_origin, mem_big (List.mem_of_getElem? (i := 1588) (by decide +kernel)) (by decide +kernel), kp_X12_origin.1, kp_X12_origin.2⟩, ks_X12_origin⟩
theorem kd_X12_told : Cond.code yX12_told cX12_told 4 none ∈ big := mem_big (List.mem_of_getElem? (i := 1636) (by decide +kernel)) (by decide +kernel)
theorem ks_X12_told : Cond.instanceMethod yX12_told ∈ big ∧ Cond.selects yX12_told.cls yX12_told yX12_told ∈ big := ⟨mem_big (List.mem_of_getElem? (i := 1635) (by decide +kernel)) (by decide +kernel), mem_big (List.mem_of_getElem? (i := 87) (by decide +kernel)) (by decide +kernel)⟩
theorem kp_X12_told : Cond.initialized yX12_told.cls ∈ big ∧ (yX12_told.cls ≠ "java/lang/invoke/MethodHandle" ∧ yX12_told.cls ≠ "java/lang/invoke/VarHandle" ∧ (parseMethodDescriptor yX12_told.desc).map (fun d => d.parameters.length) = some 2) := ⟨mem_big (List.mem_of_getElem? (i := 134) (by decide +kernel)) (by decide +kernel), by decide +kernel⟩
theorem km_X12_460 : LkV RX12 460 yX12_told cX12_told 4 none 2 := ⟨⟨kd_X12_told, mem_big (List.mem_of_getElem? (i := 1633) (by decide +kernel)) (by decide +kernel), kp_X12_told.1, kp_X12_told.2⟩, ks_X12_told⟩
theorem kd_X12_made : Cond.code yX12_made cX12_made 4 (some .int) ∈ big := mem_big (List.mem_of_getElem? (i := 1640) (by decide +kernel)) (by decide +kernel)
theorem ks_X12_made : Cond.instanceMethod yX12_made ∈ big ∧ Cond.selects yX12_made.cls yX12_made yX12_made ∈ big := ⟨mem_big (List.mem_of_getElem? (i := 1639) (by decide +kernel)) (by decide +kernel), mem_big (List.mem_of_getElem? (i := 88) (by decide +kernel)) (by decide +kernel)⟩
theorem kp_X12_made : Cond.initialized yX12_made.cls ∈ big ∧ (yX12_made.cls ≠ "java/lang/invoke/MethodHandle" ∧ yX12_made.cls ≠ "java/lang/invoke/VarHandle" ∧ (parseMethodDescriptor yX12_made.desc).map (fun d => d.parameters.length) = some 3) := ⟨mem_big (List.mem_of_getElem? (i := 134) (by decide +kernel)) (by decide +kernel), by decide +kernel⟩
theorem km_X12_463 : LkV RX12 463 yX12_made cX12_made 4 (some .int) 3 := ⟨⟨kd_X12_made, mem_big (List.mem_of_getElem? (i := 1637) (by decide +kernel)) (by decide +kernel), kp_X12_made.1, kp_X12_made.2⟩, ks_X12_made⟩
theorem kd_X12_shadeOf : Cond.code yX12_shadeOf cX12_shadeOf 8 (some .int) ∈ big := mem_big (List.mem_of_getElem? (i := 1607) (by decide +kernel)) (by decide +kernel)
theorem ks_X12_shadeOf : Cond.instanceMethod yX12_shadeOf ∈ big ∧ Cond.selects yX12_shadeOf.cls yX12_shadeOf yX12_shadeOf ∈ big := ⟨mem_big (List.mem_of_getElem? (i := 1606) (by decide +kernel)) (by decide +kernel), mem_big (List.mem_of_getElem? (i := 83) (by decide +kernel)) (by decide +kernel)⟩
theorem kp_X12_shadeOf : Cond.initialized yX12_shadeOf.cls ∈ big ∧ (yX12_shadeOf.cls ≠ "java/lang/invoke/MethodHandle" ∧ yX12_shadeOf.cls ≠ "java/lang/invoke/VarHandle" ∧ (parseMethodDescriptor yX12_shadeOf.desc).map (fun d => d.parameters.length) = some 5) := ⟨mem_big (List.mem_of_getElem? (i := 134) (by decide +kernel)) (by decide +kernel), by decide +kernel⟩
theorem km_X12_466 : LkV RX12 466 yX12_shadeOf cX12_shadeOf 8 (some .int) 5 := ⟨⟨kd_X12_shadeOf, mem_big (List.mem_of_getElem? (i := 1604) (by decide +kernel)) (by decide +kernel), kp_X12_shadeOf.1, kp_X12_shadeOf.2⟩, ks_X12_shadeOf⟩
theorem kd_X12_originOf : Cond.code yX12_originOf cX12_originOf 4 (some .int) ∈ big := mem_big (List.mem_of_getElem? (i := 1643) (by decide +kernel)) (by decide +kernel)
theorem ks_X12_originOf : Cond.static yX12_originOf ∈ big := mem_big (List.mem_of_getElem? (i := 1642) (by decide +kernel)) (by decide +kernel)
theorem kp_X12_originOf : Cond.initialized yX12_originOf.cls ∈ big ∧ (yX12_originOf.cls ≠ "java/lang/invoke/MethodHandle" ∧ yX12_originOf.cls ≠ "java/lang/invoke/VarHandle" ∧ (parseMethodDescriptor yX12_originOf.desc).map (fun d => d.parameters.length) = some 4) := ⟨mem_big (List.mem_of_getElem? (i := 134) (by decide +kernel)) (by decide +kernel), by decide +kernel⟩
theorem km_X12_470 : LkS RX12 470 yX12_originOf cX12_originOf 4 (some .int) 4 := ⟨⟨kd_X12_originOf, mem_big (List.mem_of_getElem? (i := 1641) (by decide +kernel)) (by decide +kernel), kp_X12_originOf.1, kp_X12_originOf.2⟩, ks_X12_originOf⟩
theorem kd_X12_give : Cond.code yX12_give cX12_give 6 none ∈ big := mem_big (List.mem_of_getElem? (i := 1595) (by decide +kernel)) (by decide +kernel)
theorem ks_X12_give : Cond.instanceMethod yX12_give ∈ big ∧ Cond.selects yX12_give.cls yX12_give yX12_give ∈ big := ⟨mem_big (List.mem_of_getElem? (i := 1594) (by decide +kernel)) (by decide +kernel), mem_big (List.mem_of_getElem? (i := 80) (by decide +kernel)) (by decide +kernel)⟩
theorem kp_X12_give : Cond.initialized yX12_give.cls ∈ big ∧ (yX12_give.cls ≠ "java/lang/invoke/MethodHandle" ∧ yX12_give.cls ≠ "java/lang/invoke/VarHandle" ∧ (parseMethodDescriptor yX12_give.desc).map (fun d => d.parameters.length) = some 4) := ⟨mem_big (List.mem_of_getElem? (i := 134) (by decide +kernel)) (by decide +kernel), by decide +kernel⟩
theorem km_X12_473 : LkV RX12 473 yX12_give cX12_give 6 none 4 := ⟨⟨kd_X12_give, mem_big (List.mem_of_getElem? (i := 1592) (by decide +kernel)) (by decide +kernel), kp_X12_give.1, kp_X12_give.2⟩, ks_X12_give⟩
theorem kd_X12_up8 : Cond.code yX12_up8 cX12_up8 1 (some .int) ∈ big := mem_big (List.mem_of_getElem? (i := 1666) (by decide +kernel)) (by decide +kernel)
theorem ks_X12_up8 : Cond.static yX12_up8 ∈ big := mem_big (List.mem_of_getElem? (i := 1665) (by decide +kernel)) (by decide +kernel)
theorem kp_X12_up8 : Cond.initialized yX12_up8.cls ∈ big ∧ (yX12_up8.cls ≠ "java/lang/invoke/MethodHandle" ∧ yX12_up8.cls ≠ "java/lang/invoke/VarHandle" ∧ (parseMethodDescriptor yX12_up8.desc).map (fun d => d.parameters.length) = some 1) := ⟨mem_big (List.mem_of_getElem? (i := 134) (by decide +kernel)) (by decide +kernel), by decide +kernel⟩
theorem km_X12_477 : LkS RX12 477 yX12_up8 cX12_up8 1 (some .int) 1 := ⟨⟨kd_X12_up8, mem_big (List.mem_of_getElem? (i := 1664) (by decide +kernel)) (by decide +kernel), kp_X12_up8.1, kp_X12_up8.2⟩, ks_X12_up8⟩
theorem kd_X12_isThere : Cond.code yX12_isThere cX12_isThere 2 (some .boolean) ∈ big := mem_big (List.mem_of_getElem? (i := 1659) (by decide +kernel)) (by decide +kernel)
theorem ks_X12_isThere : Cond.instanceMethod yX12_isThere ∈ big ∧ Cond.selects yX12_isThere.cls yX12_isThere yX12_isThere ∈ big := ⟨mem_big (List.mem_of_getElem? (i := 1658) (by decide +kernel)) (by decide +kernel), mem_big (List.mem_of_getElem? (i := 92) (by decide +kernel)) (by decide +kernel)⟩
theorem kp_X12_isThere : Cond.initialized yX12_isThere.cls ∈ big ∧ (yX12_isThere.cls ≠ "java/lang/invoke/MethodHandle" ∧ yX12_isThere.cls ≠ "java/lang/invoke/VarHandle" ∧ (parseMethodDescriptor yX12_isThere.desc).map (fun d => d.parameters.length) = some 1) := ⟨mem_big (List.mem_of_getElem? (i := 134) (by decide +kernel)) (by decide +kernel), by decide +kernel⟩
theorem km_X12_480 : LkV RX12 480 yX12_isThere cX12_isThere 2 (some .boolean) 1 := ⟨⟨kd_X12_isThere, mem_big (List.mem_of_getElem? (i := 1656) (by decide +kernel)) (by decide +kernel), kp_X12_isThere.1, kp_X12_isThere.2⟩, ks_X12_isThere⟩
theorem kd_X12_blockAt : Cond.code yX12_blockAt cX12_blockAt 4 (some .int) ∈ big := mem_big (List.mem_of_getElem? (i := 1663) (by decide +kernel)) (by decide +kernel)
theorem ks_X12_blockAt : Cond.instanceMethod yX12_blockAt ∈ big ∧ Cond.selects yX12_blockAt.cls yX12_blockAt yX12_blockAt ∈ big := ⟨mem_big (List.mem_of_getElem? (i := 1662) (by decide +kernel)) (by decide +kernel), mem_big (List.mem_of_getElem? (i := 93) (by decide +kernel)) (by decide +kernel)⟩
theorem kp_X12_blockAt : Cond.initialized yX12_blockAt.cls ∈ big ∧ (yX12_blockAt.cls ≠ "java/lang/invoke/MethodHandle" ∧ yX12_blockAt.cls ≠ "java/lang/invoke/VarHandle" ∧ (parseMethodDescriptor yX12_blockAt.desc).map (fun d => d.parameters.length) = some 1) := ⟨mem_big (List.mem_of_getElem? (i := 134) (by decide +kernel)) (by decide +kernel), by decide +kernel⟩
theorem km_X12_483 : LkV RX12 483 yX12_blockAt cX12_blockAt 4 (some .int) 1 := ⟨⟨kd_X12_blockAt, mem_big (List.mem_of_getElem? (i := 1660) (by decide +kernel)) (by decide +kernel), kp_X12_blockAt.1, kp_X12_blockAt.2⟩, ks_X12_blockAt⟩
theorem kd_X12_areThere : Cond.code yX12_areThere cX12_areThere 4 (some .boolean) ∈ big := mem_big (List.mem_of_getElem? (i := 1655) (by decide +kernel)) (by decide +kernel)
theorem ks_X12_areThere : Cond.instanceMethod yX12_areThere ∈ big ∧ Cond.selects yX12_areThere.cls yX12_areThere yX12_areThere ∈ big := ⟨mem_big (List.mem_of_getElem? (i := 1654) (by decide +kernel)) (by decide +kernel), mem_big (List.mem_of_getElem? (i := 91) (by decide +kernel)) (by decide +kernel)⟩
theorem kp_X12_areThere : Cond.initialized yX12_areThere.cls ∈ big ∧ (yX12_areThere.cls ≠ "java/lang/invoke/MethodHandle" ∧ yX12_areThere.cls ≠ "java/lang/invoke/VarHandle" ∧ (parseMethodDescriptor yX12_areThere.desc).map (fun d => d.parameters.length) = some 2) := ⟨mem_big (List.mem_of_getElem? (i := 134) (by decide +kernel)) (by decide +kernel), by decide +kernel⟩
theorem km_X12_486 : LkV RX12 486 yX12_areThere cX12_areThere 4 (some .boolean) 2 := ⟨⟨kd_X12_areThere, mem_big (List.mem_of_getElem? (i := 1652) (by decide +kernel)) (by decide +kernel), kp_X12_areThere.1, kp_X12_areThere.2⟩, ks_X12_areThere⟩
theorem kd_X12_load : Cond.code yX12_load cX12_load 10 none ∈ big := mem_big (List.mem_of_getElem? (i := 1651) (by decide +kernel)) (by decide +kernel)
theorem ks_X12_load : Cond.instanceMethod yX12_load ∈ big ∧ Cond.selects yX12_load.cls yX12_load yX12_load ∈ big := ⟨mem_big (List.mem_of_getElem? (i := 1650) (by decide +kernel)) (by decide +kernel), mem_big (List.mem_of_getElem? (i := 90) (by decide +kernel)) (by decide +kernel)⟩
theorem kp_X12_load : Cond.initialized yX12_load.cls ∈ big ∧ (yX12_load.cls ≠ "java/lang/invoke/MethodHandle" ∧ yX12_load.cls ≠ "java/lang/invoke/VarHandle" ∧ (parseMethodDescriptor yX12_load.desc).map (fun d => d.parameters.length) = some 4) := ⟨mem_big (List.mem_of_getElem? (i := 134) (by decide +kernel)) (by decide +kernel), by decide +kernel⟩
theorem km_X12_489 : LkV RX12 489 yX12_load cX12_load 10 none 4 := ⟨⟨kd_X12_load, mem_big (List.mem_of_getElem? (i := 1648) (by decide +kernel)) (by decide +kernel), kp_X12_load.1, kp_X12_load.2⟩, ks_X12_load⟩
theorem kd_X12_store : Cond.code yX12_store cX12_store 8 none ∈ big := mem_big (List.mem_of_getElem? (i := 1670) (by decide +kernel)) (by decide +kernel)
theorem ks_X12_store : Cond.instanceMethod yX12_store ∈ big ∧ Cond.selects yX12_store.cls yX12_store yX12_store ∈ big := ⟨mem_big (List.mem_of_getElem? (i := 1669) (by decide +kernel)) (by decide +kernel), mem_big (List.mem_of_getElem? (i := 94) (by decide +kernel)) (by decide +kernel)⟩
theorem kp_X12_store : Cond.initialized yX12_store.cls ∈ big ∧ (yX12_store.cls ≠ "java/lang/invoke/MethodHandle" ∧ yX12_store.cls ≠ "java/lang/invoke/VarHandle" ∧ (parseMethodDescriptor yX12_store.desc).map (fun d => d.parameters.length) = some 5) := ⟨mem_big (List.mem_of_getElem? (i := 134) (by decide +kernel)) (by decide +kernel), by decide +kernel⟩
theorem km_X12_493 : LkV RX12 493 yX12_store cX12_store 8 none 5 := ⟨⟨kd_X12_store, mem_big (List.mem_of_getElem? (i := 1667) (by decide +kernel)) (by decide +kernel), kp_X12_store.1, kp_X12_store.2⟩, ks_X12_store⟩
theorem kd_X12_move : Cond.code yX12_move cX12_move 6 none ∈ big := mem_big (List.mem_of_getElem? (i := 1722) (by decide +kernel)) (by decide +kernel)
theorem ks_X12_move : Cond.instanceMethod yX12_move ∈ big ∧ Cond.selects yX12_move.cls yX12_move yX12_move ∈ big := ⟨mem_big (List.mem_of_getElem? (i := 1721) (by decide +kernel)) (by decide +kernel), mem_big (List.mem_of_getElem? (i := 107) (by decide +kernel)) (by decide +kernel)⟩
theorem kp_X12_move : Cond.initialized yX12_move.cls ∈ big ∧ (yX12_move.cls ≠ "java/lang/invoke/MethodHandle" ∧ yX12_move.cls ≠ "java/lang/invoke/VarHandle" ∧ (parseMethodDescriptor yX12_move.desc).map (fun d => d.parameters.length) = some 3) := ⟨mem_big (List.mem_of_getElem? (i := 134) (by decide +kernel)) (by decide +kernel), by decide +kernel⟩
theorem km_X12_497 : LkV RX12 497 yX12_move cX12_move 6 none 3 := ⟨⟨kd_X12_move, mem_big (List.mem_of_getElem? (i := 1719) (by decide +kernel)) (by decide +kernel), kp_X12_move.1, kp_X12_move.2⟩, ks_X12_move⟩
theorem kd_X12_areIn : Cond.code yX12_areIn cX12_areIn 2 (some .boolean) ∈ big := mem_big (List.mem_of_getElem? (i := 1733) (by decide +kernel)) (by decide +kernel)
theorem ks_X12_areIn : Cond.static yX12_areIn ∈ big := mem_big (List.mem_of_getElem? (i := 1732) (by decide +kernel)) (by decide +kernel)
theorem kp_X12_areIn : Cond.initialized yX12_areIn.cls ∈ big ∧ (yX12_areIn.cls ≠ "java/lang/invoke/MethodHandle" ∧ yX12_areIn.cls ≠ "java/lang/invoke/VarHandle" ∧ (parseMethodDescriptor yX12_areIn.desc).map (fun d => d.parameters.length) = some 2) := ⟨mem_big (List.mem_of_getElem? (i := 134) (by decide +kernel)) (by decide +kernel), by decide +kernel⟩
theorem km_X12_500 : LkS RX12 500 yX12_areIn cX12_areIn 2 (some .boolean) 2 := ⟨⟨kd_X12_areIn, mem_big (List.mem_of_getElem? (i := 1731) (by decide +kernel)) (by decide +kernel), kp_X12_areIn.1, kp_X12_areIn.2⟩, ks_X12_areIn⟩
theorem kd_X12_blockOf : Cond.code yX12_blockOf cX12_blockOf 6 (some .int) ∈ big := mem_big (List.mem_of_getElem? (i := 1698) (by decide +kernel)) (by decide +kernel)
theorem ks_X12_blockOf : Cond.instanceMethod yX12_blockOf ∈ big ∧ Cond.selects yX12_blockOf.cls yX12_blockOf yX12_blockOf ∈ big := ⟨mem_big (List.mem_of_getElem? (i := 1697) (by decide +kernel)) (by decide +kernel), mem_big (List.mem_of_getElem? (i := 101) (by decide +kernel)) (by decide +kernel)⟩
theorem kp_X12_blockOf : Cond.initialized yX12_blockOf.cls ∈ big ∧ (yX12_blockOf.cls ≠ "java/lang/invoke/MethodHandle" ∧ yX12_blockOf.cls ≠ "java/lang/invoke/VarHandle" ∧ (parseMethodDescriptor yX12_blockOf.desc).map (fun d => d.parameters.length) = some 1) := ⟨mem_big (List.mem_of_getElem? (i := 134) (by decide +kernel)) (by decide +kernel), by decide +kernel⟩
theorem km_X12_503 : LkV RX12 503 yX12_blockOf cX12_blockOf 6 (some .int) 1 := ⟨⟨kd_X12_blockOf, mem_big (List.mem_of_getElem? (i := 1695) (by decide +kernel)) (by decide +kernel), kp_X12_blockOf.1, kp_X12_blockOf.2⟩, ks_X12_blockOf⟩
theorem kd_X12_inUse : Cond.code yX12_inUse cX12_inUse 3 (some .int) ∈ big := mem_big (List.mem_of_getElem? (i := 1706) (by decide +kernel)) (by decide +kernel)
theorem ks_X12_inUse : Cond.instanceMethod yX12_inUse ∈ big ∧ Cond.selects yX12_inUse.cls yX12_inUse yX12_inUse ∈ big := ⟨mem_big (List.mem_of_getElem? (i := 1705) (by decide +kernel)) (by decide +kernel), mem_big (List.mem_of_getElem? (i := 103) (by decide +kernel)) (by decide +kernel)⟩
theorem kp_X12_inUse : Cond.initialized yX12_inUse.cls ∈ big ∧ (yX12_inUse.cls ≠ "java/lang/invoke/MethodHandle" ∧ yX12_inUse.cls ≠ "java/lang/invoke/VarHandle" ∧ (parseMethodDescriptor yX12_inUse.desc).map (fun d => d.parameters.length) = some 1) := ⟨mem_big (List.mem_of_getElem? (i := 134) (by decide +kernel)) (by decide +kernel), by decide +kernel⟩
theorem km_X12_506 : LkV RX12 506 yX12_inUse cX12_inUse 3 (some .int) 1 := ⟨⟨kd_X12_inUse, mem_big (List.mem_of_getElem? (i := 1703) (by decide +kernel)) (by decide +kernel), kp_X12_inUse.1, kp_X12_inUse.2⟩, ks_X12_inUse⟩
theorem kd_X12_freed : Cond.code yX12_freed cX12_freed 8 none ∈ big := mem_big (List.mem_of_getElem? (i := 1710) (by decide +kernel)) (by decide +kernel)
theorem ks_X12_freed : Cond.instanceMethod yX12_freed ∈ big ∧ Cond.selects yX12_freed.cls yX12_freed yX12_freed ∈ big := ⟨mem_big (List.mem_of_getElem? (i := 1709) (by decide +kernel)) (by decide +kernel), mem_big (List.mem_of_getElem? (i := 104) (by decide +kernel)) (by decide +kernel)⟩
theorem kp_X12_freed : Cond.initialized yX12_freed.cls ∈ big ∧ (yX12_freed.cls ≠ "java/lang/invoke/MethodHandle" ∧ yX12_freed.cls ≠ "java/lang/invoke/VarHandle" ∧ (parseMethodDescriptor yX12_freed.desc).map (fun d => d.parameters.length) = some 1) := ⟨mem_big (List.mem_of_getElem? (i := 134) (by decide +kernel)) (by decide +kernel), by decide +kernel⟩
theorem km_X12_509 : LkV RX12 509 yX12_freed cX12_freed 8 none 1 := ⟨⟨kd_X12_freed, mem_big (List.mem_of_getElem? (i := 1707) (by decide +kernel)) (by decide +kernel), kp_X12_freed.1, kp_X12_freed.2⟩, ks_X12_freed⟩
theorem kd_X12_single : Cond.code yX12_single cX12_single 7 none ∈ big := mem_big (List.mem_of_getElem? (i := 1579) (by decide +kernel)) (by decide +kernel)
theorem ks_X12_single : Cond.instanceMethod yX12_single ∈ big ∧ Cond.selects yX12_single.cls yX12_single yX12_single ∈ big := ⟨mem_big (List.mem_of_getElem? (i := 1578) (by decide +kernel)) (by decide +kernel), mem_big (List.mem_of_getElem? (i := 76) (by decide +kernel)) (by decide +kernel)⟩
theorem kp_X12_single : Cond.initialized yX12_single.cls ∈ big ∧ (yX12_single.cls ≠ "java/lang/invoke/MethodHandle" ∧ yX12_single.cls ≠ "java/lang/invoke/VarHandle" ∧ (parseMethodDescriptor yX12_single.desc).map (fun d => d.parameters.length) = some 2) := ⟨mem_big (List.mem_of_getElem? (i := 134) (by decide +kernel)) (by decide +kernel), by decide +kernel⟩
theorem km_X12_512 : LkV RX12 512 yX12_single cX12_single 7 none 2 := ⟨⟨kd_X12_single, mem_big (List.mem_of_getElem? (i := 1576) (by decide +kernel)) (by decide +kernel), kp_X12_single.1, kp_X12_single.2⟩, ks_X12_single⟩
theorem kd_X12_reckon : Cond.code yX12_reckon cX12_reckon 10 none ∈ big := mem_big (List.mem_of_getElem? (i := 1632) (by decide +kernel)) (by decide +kernel)
theorem ks_X12_reckon : Cond.instanceMethod yX12_reckon ∈ big ∧ Cond.selects yX12_reckon.cls yX12_reckon yX12_reckon ∈ big := ⟨mem_big (List.mem_of_getElem? (i := 1631) (by decide +kernel)) (by decide +kernel), mem_big (List.mem_of_getElem? (i := 86) (by decide +kernel)) (by decide +kernel)⟩
theorem kp_X12_reckon : Cond.initialized yX12_reckon.cls ∈ big ∧ (yX12_reckon.cls ≠ "java/lang/invoke/MethodHandle" ∧ yX12_reckon.cls ≠ "java/lang/invoke/VarHandle" ∧ (parseMethodDescriptor yX12_reckon.desc).map (fun d => d.parameters.length) = some 2) := ⟨mem_big (List.mem_of_getElem? (i := 134) (by decide +kernel)) (by decide +kernel), by decide +kernel⟩
theorem km_X12_515 : LkV RX12 515 yX12_reckon cX12_reckon 10 none 2 := ⟨⟨kd_X12_reckon, mem_big (List.mem_of_getElem? (i := 1629) (by decide +kernel)) (by decide +kernel), kp_X12_reckon.1, kp_X12_reckon.2⟩, ks_X12_reckon⟩
theorem kd_X12_reach : Cond.code yX12_reach cX12_reach 5 none ∈ big := mem_big (List.mem_of_getElem? (i := 1647) (by decide +kernel)) (by decide +kernel)
theorem ks_X12_reach : Cond.instanceMethod yX12_reach ∈ big ∧ Cond.selects yX12_reach.cls yX12_reach yX12_reach ∈ big := ⟨mem_big (List.mem_of_getElem? (i := 1646) (by decide +kernel)) (by decide +kernel), mem_big (List.mem_of_getElem? (i := 89) (by decide +kernel)) (by decide +kernel)⟩
theorem kp_X12_reach : Cond.initialized yX12_reach.cls ∈ big ∧ (yX12_reach.cls ≠ "java/lang/invoke/MethodHandle" ∧ yX12_reach.cls ≠ "java/lang/invoke/VarHandle" ∧ (parseMethodDescriptor yX12_reach.desc).map (fun d => d.parameters.length) = some 2) := ⟨mem_big (List.mem_of_getElem? (i := 134) (by decide +kernel)) (by decide +kernel), by decide +kernel⟩
theorem km_X12_518 : LkV RX12 518 yX12_reach cX12_reach 5 none 2 := ⟨⟨kd_X12_reach, mem_big (List.mem_of_getElem? (i := 1644) (by decide +kernel)) (by decide +kernel), kp_X12_reach.1, kp_X12_reach.2⟩, ks_X12_reach⟩
theorem kd_X12_branch : Cond.code yX12_branch cX12_branch 9 none ∈ big := mem_big (List.mem_of_getElem? (i := 1674) (by decide +kernel)) (by decide +kernel)
theorem ks_X12_branch : Cond.instanceMethod yX12_branch ∈ big ∧ Cond.selects yX12_branch.cls yX12_branch yX12_branch ∈ big := ⟨mem_big (List.mem_of_getElem? (i := 1673) (by decide +kernel)) (by decide +kernel), mem_big (List.mem_of_getElem? (i := 95) (by decide +kernel)) (by decide +kernel)⟩
theorem kp_X12_branch : Cond.initialized yX12_branch.cls ∈ big ∧ (yX12_branch.cls ≠ "java/lang/invoke/MethodHandle" ∧ yX12_branch.cls ≠ "java/lang/invoke/VarHandle" ∧ (parseMethodDescriptor yX12_branch.desc).map (fun d => d.parameters.length) = some 2) := ⟨mem_big (List.mem_of_getElem? (i := 134) (by decide +kernel)) (by decide +kernel), by decide +kernel⟩
theorem km_X12_521 : LkV RX12 521 yX12_branch cX12_branch 9 none 2 := ⟨⟨kd_X12_branch, mem_big (List.mem_of_getElem? (i := 1671) (by decide +kernel)) (by decide +kernel), kp_X12_branch.1, kp_X12_branch.2⟩, ks_X12_branch⟩
theorem kd_X12_act : Cond.code yX12_act cX12_act 4 none ∈ big := mem_big (List.mem_of_getElem? (i := 1678) (by decide +kernel)) (by decide +kernel)
theorem ks_X12_act : Cond.instanceMethod yX12_act ∈ big ∧ Cond.selects yX12_act.cls yX12_act yX12_act ∈ big := ⟨mem_big (List.mem_of_getElem? (i := 1677) (by decide +kernel)) (by decide +kernel), mem_big (List.mem_of_getElem? (i := 96) (by decide +kernel)) (by decide +kernel)⟩
theorem kp_X12_act : Cond.initialized yX12_act.cls ∈ big ∧ (yX12_act.cls ≠ "java/lang/invoke/MethodHandle" ∧ yX12_act.cls ≠ "java/lang/invoke/VarHandle" ∧ (parseMethodDescriptor yX12_act.desc).map (fun d => d.parameters.length) = some 2) := ⟨mem_big (List.mem_of_getElem? (i := 134) (by decide +kernel)) (by decide +kernel), by decide +kernel⟩
theorem km_X12_524 : LkV RX12 524 yX12_act cX12_act 4 none 2 := ⟨⟨kd_X12_act, mem_big (List.mem_of_getElem? (i := 1675) (by decide +kernel)) (by decide +kernel), kp_X12_act.1, kp_X12_act.2⟩, ks_X12_act⟩
theorem kd_X12_call : Cond.code yX12_call cX12_call 2 none ∈ big := mem_big (List.mem_of_getElem? (i := 1682) (by decide +kernel)) (by decide +kernel)
theorem ks_X12_call : Cond.instanceMethod yX12_call ∈ big ∧ Cond.selects yX12_call.cls yX12_call yX12_call ∈ big := ⟨mem_big (List.mem_of_getElem? (i := 1681) (by decide +kernel)) (by decide +kernel), mem_big (List.mem_of_getElem? (i := 97) (by decide +kernel)) (by decide +kernel)⟩
theorem kp_X12_call : Cond.initialized yX12_call.cls ∈ big ∧ (yX12_call.cls ≠ "java/lang/invoke/MethodHandle" ∧ yX12_call.cls ≠ "java/lang/invoke/VarHandle" ∧ (parseMethodDescriptor yX12_call.desc).map (fun d => d.parameters.length) = some 1) := ⟨mem_big (List.mem_of_getElem? (i := 134) (by decide +kernel)) (by decide +kernel), by decide +kernel⟩
theorem km_X12_527 : LkV RX12 527 yX12_call cX12_call 2 none 1 := ⟨⟨kd_X12_call, mem_big (List.mem_of_getElem? (i := 1679) (by decide +kernel)) (by decide +kernel), kp_X12_call.1, kp_X12_call.2⟩, ks_X12_call⟩
theorem kd_X12_push : Cond.code yX12_push cX12_push 5 none ∈ big := mem_big (List.mem_of_getElem? (i := 1686) (by decide +kernel)) (by decide +kernel)
theorem ks_X12_push : Cond.instanceMethod yX12_push ∈ big ∧ Cond.selects yX12_push.cls yX12_push yX12_push ∈ big := ⟨mem_big (List.mem_of_getElem? (i := 1685) (by decide +kernel)) (by decide +kernel), mem_big (List.mem_of_getElem? (i := 98) (by decide +kernel)) (by decide +kernel)⟩
theorem kp_X12_push : Cond.initialized yX12_push.cls ∈ big ∧ (yX12_push.cls ≠ "java/lang/invoke/MethodHandle" ∧ yX12_push.cls ≠ "java/lang/invoke/VarHandle" ∧ (parseMethodDescriptor yX12_push.desc).map (fun d => d.parameters.length) = some 1) := ⟨mem_big (List.mem_of_getElem? (i := 134) (by decide +kernel)) (by decide +kernel), by decide +kernel⟩
theorem km_X12_530 : LkV RX12 530 yX12_push cX12_push 5 none 1 := ⟨⟨kd_X12_push, mem_big (List.mem_of_getElem? (i := 1683) (by decide +kernel)) (by decide +kernel), kp_X12_push.1, kp_X12_push.2⟩, ks_X12_push⟩
theorem kd_X12_pop : Cond.code yX12_pop cX12_pop 2 none ∈ big := mem_big (List.mem_of_getElem? (i := 1690) (by decide +kernel)) (by decide +kernel)
theorem ks_X12_pop : Cond.instanceMethod yX12_pop ∈ big ∧ Cond.selects yX12_pop.cls yX12_pop yX12_pop ∈ big := ⟨mem_big (List.mem_of_getElem? (i := 1689) (by decide +kernel)) (by decide +kernel), mem_big (List.mem_of_getElem? (i := 99) (by decide +kernel)) (by decide +kernel)⟩
theorem kp_X12_pop : Cond.initialized yX12_pop.cls ∈ big ∧ (yX12_pop.cls ≠ "java/lang/invoke/MethodHandle" ∧ yX12_pop.cls ≠ "java/lang/invoke/VarHandle" ∧ (parseMethodDescriptor yX12_pop.desc).map (fun d => d.parameters.length) = some 1) := ⟨mem_big (List.mem_of_getElem? (i := 134) (by decide +kernel)) (by decide +kernel), by decide +kernel⟩
theorem km_X12_533 : LkV RX12 533 yX12_pop cX12_pop 2 none 1 := ⟨⟨kd_X12_pop, mem_big (List.mem_of_getElem? (i := 1687) (by decide +kernel)) (by decide +kernel), kp_X12_pop.1, kp_X12_pop.2⟩, ks_X12_pop⟩
theorem kd_X12_newBlock : Cond.code yX12_newBlock cX12_newBlock 8 none ∈ big := mem_big (List.mem_of_getElem? (i := 1694) (by decide +kernel)) (by decide +kernel)
theorem ks_X12_newBlock : Cond.instanceMethod yX12_newBlock ∈ big ∧ Cond.selects yX12_newBlock.cls yX12_newBlock yX12_newBlock ∈ big := ⟨mem_big (List.mem_of_getElem? (i := 1693) (by decide +kernel)) (by decide +kernel), mem_big (List.mem_of_getElem? (i := 100) (by decide +kernel)) (by decide +kernel)⟩
theorem kp_X12_newBlock : Cond.initialized yX12_newBlock.cls ∈ big ∧ (yX12_newBlock.cls ≠ "java/lang/invoke/MethodHandle" ∧ yX12_newBlock.cls ≠ "java/lang/invoke/VarHandle" ∧ (parseMethodDescriptor yX12_newBlock.desc).map (fun d => d.parameters.length) = some 2) := ⟨mem_big (List.mem_of_getElem? (i := 134) (by decide +kernel)) (by decide +kernel), by decide +kernel⟩
theorem km_X12_536 : LkV RX12 536 yX12_newBlock cX12_newBlock 8 none 2 := ⟨⟨kd_X12_newBlock, mem_big (List.mem_of_getElem? (i := 1691) (by decide +kernel)) (by decide +kernel), kp_X12_newBlock.1, kp_X12_newBlock.2⟩, ks_X12_newBlock⟩
theorem kd_X12_grow : Cond.code yX12_grow cX12_grow 10 none ∈ big := mem_big (List.mem_of_getElem? (i := 1702) (by decide +kernel)) (by decide +kernel)
theorem ks_X12_grow : Cond.instanceMethod yX12_grow ∈ big ∧ Cond.selects yX12_grow.cls yX12_grow yX12_grow ∈ big := ⟨mem_big (List.mem_of_getElem? (i := 1701) (by decide +kernel)) (by decide +kernel), mem_big (List.mem_of_getElem? (i := 102) (by decide +kernel)) (by decide +kernel)⟩
theorem kp_X12_grow : Cond.initialized yX12_grow.cls ∈ big ∧ (yX12_grow.cls ≠ "java/lang/invoke/MethodHandle" ∧ yX12_grow.cls ≠ "java/lang/invoke/VarHandle" ∧ (parseMethodDescriptor yX12_grow.desc).map (fun d => d.parameters.length) = some 1) := ⟨mem_big (List.mem_of_getElem? (i := 134) (by decide +kernel)) (by decide +kernel), by decide +kernel⟩
theorem km_X12_540 : LkV RX12 540 yX12_grow cX12_grow 10 none 1 := ⟨⟨kd_X12_grow, mem_big (List.mem_of_getElem? (i := 1699) (by decide +kernel)) (by decide +kernel), kp_X12_grow.1, kp_X12_grow.2⟩, ks_X12_grow⟩
theorem kd_X12_free : Cond.code yX12_free cX12_free 4 none ∈ big := mem_big (List.mem_of_getElem? (i := 1714) (by decide +kernel)) (by decide +kernel)
theorem ks_X12_free : Cond.instanceMethod yX12_free ∈ big ∧ Cond.selects yX12_free.cls yX12_free yX12_free ∈ big := ⟨mem_big (List.mem_of_getElem? (i := 1713) (by decide +kernel)) (by decide +kernel), mem_big (List.mem_of_getElem? (i := 105) (by decide +kernel)) (by decide +kernel)⟩
theorem kp_X12_free : Cond.initialized yX12_free.cls ∈ big ∧ (yX12_free.cls ≠ "java/lang/invoke/MethodHandle" ∧ yX12_free.cls ≠ "java/lang/invoke/VarHandle" ∧ (parseMethodDescriptor yX12_free.desc).map (fun d => d.parameters.length) = some 1) := ⟨mem_big (List.mem_of_getElem? (i := 134) (by decide +kernel)) (by decide +kernel), by decide +kernel⟩
theorem km_X12_543 : LkV RX12 543 yX12_free cX12_free 4 none 1 := ⟨⟨kd_X12_free, mem_big (List.mem_of_getElem? (i := 1711) (by decide +kernel)) (by decide +kernel), kp_X12_free.1, kp_X12_free.2⟩, ks_X12_free⟩
theorem kd_X12_copy : Cond.code yX12_copy cX12_copy 5 none ∈ big := mem_big (List.mem_of_getElem? (i := 1718) (by decide +kernel)) (by decide +kernel)
theorem ks_X12_copy : Cond.instanceMethod yX12_copy ∈ big ∧ Cond.selects yX12_copy.cls yX12_copy yX12_copy ∈ big := ⟨mem_big (List.mem_of_getElem? (i := 1717) (by decide +kernel)) (by decide +kernel), mem_big (List.mem_of_getElem? (i := 106) (by decide +kernel)) (by decide +kernel)⟩
theorem kp_X12_copy : Cond.initialized yX12_copy.cls ∈ big ∧ (yX12_copy.cls ≠ "java/lang/invoke/MethodHandle" ∧ yX12_copy.cls ≠ "java/lang/invoke/VarHandle" ∧ (parseMethodDescriptor yX12_copy.desc).map (fun d => d.parameters.length) = some 1) := ⟨mem_big (List.mem_of_getElem? (i := 134) (by decide +kernel)) (by decide +kernel), by decide +kernel⟩
theorem km_X12_546 : LkV RX12 546 yX12_copy cX12_copy 5 none 1 := ⟨⟨kd_X12_copy, mem_big (List.mem_of_getElem? (i := 1715) (by decide +kernel)) (by decide +kernel), kp_X12_copy.1, kp_X12_copy.2⟩, ks_X12_copy⟩
theorem kd_X12_fill : Cond.code yX12_fill cX12_fill 5 none ∈ big := mem_big (List.mem_of_getElem? (i := 1726) (by decide +kernel)) (by decide +kernel)
theorem ks_X12_fill : Cond.instanceMethod yX12_fill ∈ big ∧ Cond.selects yX12_fill.cls yX12_fill yX12_fill ∈ big := ⟨mem_big (List.mem_of_getElem? (i := 1725) (by decide +kernel)) (by decide +kernel), mem_big (List.mem_of_getElem? (i := 108) (by decide +kernel)) (by decide +kernel)⟩
theorem kp_X12_fill : Cond.initialized yX12_fill.cls ∈ big ∧ (yX12_fill.cls ≠ "java/lang/invoke/MethodHandle" ∧ yX12_fill.cls ≠ "java/lang/invoke/VarHandle" ∧ (parseMethodDescriptor yX12_fill.desc).map (fun d => d.parameters.length) = some 1) := ⟨mem_big (List.mem_of_getElem? (i := 134) (by decide +kernel)) (by decide +kernel), by decide +kernel⟩
theorem km_X12_549 : LkV RX12 549 yX12_fill cX12_fill 5 none 1 := ⟨⟨kd_X12_fill, mem_big (List.mem_of_getElem? (i := 1723) (by decide +kernel)) (by decide +kernel), kp_X12_fill.1, kp_X12_fill.2⟩, ks_X12_fill⟩
theorem kd_X12_marked : Cond.code yX12_marked cX12_marked 7 none ∈ big := mem_big (List.mem_of_getElem? (i := 1730) (by decide +kernel)) (by decide +kernel)
theorem ks_X12_marked : Cond.instanceMethod yX12_marked ∈ big ∧ Cond.selects yX12_marked.cls yX12_marked yX12_marked ∈ big := ⟨mem_big (List.mem_of_getElem? (i := 1729) (by decide +kernel)) (by decide +kernel), mem_big (List.mem_of_getElem? (i := 109) (by decide +kernel)) (by decide +kernel)⟩
theorem kp_X12_marked : Cond.initialized yX12_marked.cls ∈ big ∧ (yX12_marked.cls ≠ "java/lang/invoke/MethodHandle" ∧ yX12_marked.cls ≠ "java/lang/invoke/VarHandle" ∧ (parseMethodDescriptor yX12_marked.desc).map (fun d => d.parameters.length) = some 1) := ⟨mem_big (List.mem_of_getElem? (i := 134) (by decide +kernel)) (by decide +kernel), by decide +kernel⟩
theorem km_X12_552 : LkV RX12 552 yX12_marked cX12_marked 7 none 1 := ⟨⟨kd_X12_marked, mem_big (List.mem_of_getElem? (i := 1727) (by decide +kernel)) (by decide +kernel), kp_X12_marked.1, kp_X12_marked.2⟩, ks_X12_marked⟩
theorem kd_X12_look : Cond.code yX12_look cX12_look 6 none ∈ big := mem_big (List.mem_of_getElem? (i := 1737) (by decide +kernel)) (by decide +kernel)
theorem ks_X12_look : Cond.instanceMethod yX12_look ∈ big ∧ Cond.selects yX12_look.cls yX12_look yX12_look ∈ big := ⟨mem_big (List.mem_of_getElem? (i := 1736) (by decide +kernel)) (by decide +kernel), mem_big (List.mem_of_getElem? (i := 110) (by decide +kernel)) (by decide +kernel)⟩
theorem kp_X12_look : Cond.initialized yX12_look.cls ∈ big ∧ (yX12_look.cls ≠ "java/lang/invoke/MethodHandle" ∧ yX12_look.cls ≠ "java/lang/invoke/VarHandle" ∧ (parseMethodDescriptor yX12_look.desc).map (fun d => d.parameters.length) = some 1) := ⟨mem_big (List.mem_of_getElem? (i := 134) (by decide +kernel)) (by decide +kernel), by decide +kernel⟩
theorem km_X12_555 : LkV RX12 555 yX12_look cX12_look 6 none 1 := ⟨⟨kd_X12_look, mem_big (List.mem_of_getElem? (i := 1734) (by decide +kernel)) (by decide +kernel), kp_X12_look.1, kp_X12_look.2⟩, ks_X12_look⟩
theorem kd_X12_go : Cond.code yX12_go cX12_go 3 (some .int) ∈ big := mem_big (List.mem_of_getElem? (i := 1571) (by decide +kernel)) (by decide +kernel)
theorem ks_X12_go : Cond.instanceMethod yX12_go ∈ big ∧ Cond.selects yX12_go.cls yX12_go yX12_go ∈ big := ⟨mem_big (List.mem_of_getElem? (i := 1570) (by decide +kernel)) (by decide +kernel), mem_big (List.mem_of_getElem? (i := 74) (by decide +kernel)) (by decide +kernel)⟩
theorem kp_X12_go : Cond.initialized yX12_go.cls ∈ big ∧ (yX12_go.cls ≠ "java/lang/invoke/MethodHandle" ∧ yX12_go.cls ≠ "java/lang/invoke/VarHandle" ∧ (parseMethodDescriptor yX12_go.desc).map (fun d => d.parameters.length) = some 1) := ⟨mem_big (List.mem_of_getElem? (i := 134) (by decide +kernel)) (by decide +kernel), by decide +kernel⟩
theorem km_X12_562 : LkV RX12 562 yX12_go cX12_go 3 (some .int) 1 := ⟨⟨kd_X12_go, mem_big (List.mem_of_getElem? (i := 1568) (by decide +kernel)) (by decide +kernel), kp_X12_go.1, kp_X12_go.2⟩, ks_X12_go⟩
theorem kd_X12_step : Cond.code yX12_step cX12_step 3 none ∈ big := mem_big (List.mem_of_getElem? (i := 1575) (by decide +kernel)) (by decide +kernel)
theorem ks_X12_step : Cond.instanceMethod yX12_step ∈ big ∧ Cond.selects yX12_step.cls yX12_step yX12_step ∈ big := ⟨mem_big (List.mem_of_getElem? (i := 1574) (by decide +kernel)) (by decide +kernel), mem_big (List.mem_of_getElem? (i := 75) (by decide +kernel)) (by decide +kernel)⟩
theorem kp_X12_step : Cond.initialized yX12_step.cls ∈ big ∧ (yX12_step.cls ≠ "java/lang/invoke/MethodHandle" ∧ yX12_step.cls ≠ "java/lang/invoke/VarHandle" ∧ (parseMethodDescriptor yX12_step.desc).map (fun d => d.parameters.length) = some 0) := ⟨mem_big (List.mem_of_getElem? (i := 134) (by decide +kernel)) (by decide +kernel), by decide +kernel⟩
theorem km_X12_565 : LkV RX12 565 yX12_step cX12_step 3 none 0 := ⟨⟨kd_X12_step, mem_big (List.mem_of_getElem? (i := 1572) (by decide +kernel)) (by decide +kernel), kp_X12_step.1, kp_X12_step.2⟩, ks_X12_step⟩
theorem kd_X12_isPointer : Cond.code yX12_isPointer cX12_isPointer 4 (some .boolean) ∈ big := mem_big (List.mem_of_getElem? (i := 1777) (by decide +kernel)) (by decide +kernel)
theorem ks_X12_isPointer : Cond.instanceMethod yX12_isPointer ∈ big ∧ Cond.selects yX12_isPointer.cls yX12_isPointer yX12_isPointer ∈ big := ⟨mem_big (List.mem_of_getElem? (i := 1776) (by decide +kernel)) (by decide +kernel), mem_big (List.mem_of_getElem? (i := 114) (by decide +kernel)) (by decide +kernel)⟩
theorem kp_X12_isPointer : Cond.initialized yX12_isPointer.cls ∈ big ∧ (yX12_isPointer.cls ≠ "java/lang/invoke/MethodHandle" ∧ yX12_isPointer.cls ≠ "java/lang/invoke/VarHandle" ∧ (parseMethodDescriptor yX12_isPointer.desc).map (fun d => d.parameters.length) = some 1) := ⟨mem_big (List.mem_of_getElem? (i := 134) (by decide +kernel)) (by decide +kernel), by decide +kernel⟩
theorem km_X12_568 : LkV RX12 568 yX12_isPointer cX12_isPointer 4 (some .boolean) 1 := ⟨⟨kd_X12_isPointer, mem_big (List.mem_of_getElem? (i := 1774) (by decide +kernel)) (by decide +kernel), kp_X12_isPointer.1, kp_X12_isPointer.2⟩, ks_X12_isPointer⟩
theorem kd_X12_word : Cond.code yX12_word cX12_word 2 (some .int) ∈ big := mem_big (List.mem_of_getElem? (i := 1781) (by decide +kernel)) (by decide +kernel)
theorem ks_X12_word : Cond.instanceMethod yX12_word ∈ big ∧ Cond.selects yX12_word.cls yX12_word yX12_word ∈ big := ⟨mem_big (List.mem_of_getElem? (i := 1780) (by decide +kernel)) (by decide +kernel), mem_big (List.mem_of_getElem? (i := 115) (by decide +kernel)) (by decide +kernel)⟩
theorem kp_X12_word : Cond.initialized yX12_word.cls ∈ big ∧ (yX12_word.cls ≠ "java/lang/invoke/MethodHandle" ∧ yX12_word.cls ≠ "java/lang/invoke/VarHandle" ∧ (parseMethodDescriptor yX12_word.desc).map (fun d => d.parameters.length) = some 1) := ⟨mem_big (List.mem_of_getElem? (i := 134) (by decide +kernel)) (by decide +kernel), by decide +kernel⟩
theorem km_X12_571 : LkV RX12 571 yX12_word cX12_word 2 (some .int) 1 := ⟨⟨kd_X12_word, mem_big (List.mem_of_getElem? (i := 1778) (by decide +kernel)) (by decide +kernel), kp_X12_word.1, kp_X12_word.2⟩, ks_X12_word⟩
theorem kd_X12_leads : Cond.code yX12_leads cX12_leads 4 (some .boolean) ∈ big := mem_big (List.mem_of_getElem? (i := 1785) (by decide +kernel)) (by decide +kernel)
theorem ks_X12_leads : Cond.instanceMethod yX12_leads ∈ big ∧ Cond.selects yX12_leads.cls yX12_leads yX12_leads ∈ big := ⟨mem_big (List.mem_of_getElem? (i := 1784) (by decide +kernel)) (by decide +kernel), mem_big (List.mem_of_getElem? (i := 116) (by decide +kernel)) (by decide +kernel)⟩
theorem kp_X12_leads : Cond.initialized yX12_leads.cls ∈ big ∧ (yX12_leads.cls ≠ "java/lang/invoke/MethodHandle" ∧ yX12_leads.cls ≠ "java/lang/invoke/VarHandle" ∧ (parseMethodDescriptor yX12_leads.desc).map (fun d => d.parameters.length) = some 3) := ⟨mem_big (List.mem_of_getElem? (i := 134) (by decide +kernel)) (by decide +kernel), by decide +kernel⟩
theorem km_X12_574 : LkV RX12 574 yX12_leads cX12_leads 4 (some .boolean) 3 := ⟨⟨kd_X12_leads, mem_big (List.mem_of_getElem? (i := 1782) (by decide +kernel)) (by decide +kernel), kp_X12_leads.1, kp_X12_leads.2⟩, ks_X12_leads⟩
theorem kd_X12_leadsFromRange : Cond.code yX12_leadsFromRange cX12_leadsFromRange 7 (some .boolean) ∈ big := mem_big (List.mem_of_getElem? (i := 1773) (by decide +kernel)) (by decide +kernel)
theorem ks_X12_leadsFromRange : Cond.instanceMethod yX12_leadsFromRange ∈ big ∧ Cond.selects yX12_leadsFromRange.cls yX12_leadsFromRange yX12_leadsFromRange ∈ big := ⟨mem_big (List.mem_of_getElem? (i := 1772) (by decide +kernel)) (by decide +kernel), mem_big (List.mem_of_getElem? (i := 113) (by decide +kernel)) (by decide +kernel)⟩
theorem kp_X12_leadsFromRange : Cond.initialized yX12_leadsFromRange.cls ∈ big ∧ (yX12_leadsFromRange.cls ≠ "java/lang/invoke/MethodHandle" ∧ yX12_leadsFromRange.cls ≠ "java/lang/invoke/VarHandle" ∧ (parseMethodDescriptor yX12_leadsFromRange.desc).map (fun d => d.parameters.length) = some 4) := ⟨mem_big (List.mem_of_getElem? (i := 134) (by decide +kernel)) (by decide +kernel), by decide +kernel⟩
theorem km_X12_578 : LkV RX12 578 yX12_leadsFromRange cX12_leadsFromRange 7 (some .boolean) 4 := ⟨⟨kd_X12_leadsFromRange, mem_big (List.mem_of_getElem? (i := 1770) (by decide +kernel)) (by decide +kernel), kp_X12_leadsFromRange.1, kp_X12_leadsFromRange.2⟩, ks_X12_leadsFromRange⟩
theorem kd_X12_leadsFromRoots : Cond.code yX12_leadsFromRoots cX12_leadsFromRoots 5 (some .boolean) ∈ big := mem_big (List.mem_of_getElem? (i := 1769) (by decide +kernel)) (by decide +kernel)
theorem ks_X12_leadsFromRoots : Cond.instanceMethod yX12_leadsFromRoots ∈ big ∧ Cond.selects yX12_leadsFromRoots.cls yX12_leadsFromRoots yX12_leadsFromRoots ∈ big := ⟨mem_big (List.mem_of_getElem? (i := 1768) (by decide +kernel)) (by decide +kernel), mem_big (List.mem_of_getElem? (i := 112) (by decide +kernel)) (by decide +kernel)⟩
theorem kp_X12_leadsFromRoots : Cond.initialized yX12_leadsFromRoots.cls ∈ big ∧ (yX12_leadsFromRoots.cls ≠ "java/lang/invoke/MethodHandle" ∧ yX12_leadsFromRoots.cls ≠ "java/lang/invoke/VarHandle" ∧ (parseMethodDescriptor yX12_leadsFromRoots.desc).map (fun d => d.parameters.length) = some 2) := ⟨mem_big (List.mem_of_getElem? (i := 134) (by decide +kernel)) (by decide +kernel), by decide +kernel⟩
theorem km_X12_582 : LkV RX12 582 yX12_leadsFromRoots cX12_leadsFromRoots 5 (some .boolean) 2 := ⟨⟨kd_X12_leadsFromRoots, mem_big (List.mem_of_getElem? (i := 1766) (by decide +kernel)) (by decide +kernel), kp_X12_leadsFromRoots.1, kp_X12_leadsFromRoots.2⟩, ks_X12_leadsFromRoots⟩
theorem kd_X12_leadsFromBlock : Cond.code yX12_leadsFromBlock cX12_leadsFromBlock 4 (some .boolean) ∈ big := mem_big (List.mem_of_getElem? (i := 1789) (by decide +kernel)) (by decide +kernel)
theorem ks_X12_leadsFromBlock : Cond.instanceMethod yX12_leadsFromBlock ∈ big ∧ Cond.selects yX12_leadsFromBlock.cls yX12_leadsFromBlock yX12_leadsFromBlock ∈ big := ⟨mem_big (List.mem_of_getElem? (i := 1788) (by decide +kernel)) (by decide +kernel), mem_big (List.mem_of_getElem? (i := 117) (by decide +kernel)) (by decide +kernel)⟩
theorem kp_X12_leadsFromBlock : Cond.initialized yX12_leadsFromBlock.cls ∈ big ∧ (yX12_leadsFromBlock.cls ≠ "java/lang/invoke/MethodHandle" ∧ yX12_leadsFromBlock.cls ≠ "java/lang/invoke/VarHandle" ∧ (parseMethodDescriptor yX12_leadsFromBlock.desc).map (fun d => d.parameters.length) = some 3) := ⟨mem_big (List.mem_of_getElem? (i := 134) (by decide +kernel)) (by decide +kernel), by decide +kernel⟩
theorem km_X12_586 : LkV RX12 586 yX12_leadsFromBlock cX12_leadsFromBlock 4 (some .boolean) 3 := ⟨⟨kd_X12_leadsFromBlock, mem_big (List.mem_of_getElem? (i := 1786) (by decide +kernel)) (by decide +kernel), kp_X12_leadsFromBlock.1, kp_X12_leadsFromBlock.2⟩, ks_X12_leadsFromBlock⟩
theorem kd_X12_reached : Cond.code yX12_reached cX12_reached 3 (some .boolean) ∈ big := mem_big (List.mem_of_getElem? (i := 1793) (by decide +kernel)) (by decide +kernel)
theorem ks_X12_reached : Cond.instanceMethod yX12_reached ∈ big ∧ Cond.selects yX12_reached.cls yX12_reached yX12_reached ∈ big := ⟨mem_big (List.mem_of_getElem? (i := 1792) (by decide +kernel)) (by decide +kernel), mem_big (List.mem_of_getElem? (i := 118) (by decide +kernel)) (by decide +kernel)⟩
theorem kp_X12_reached : Cond.initialized yX12_reached.cls ∈ big ∧ (yX12_reached.cls ≠ "java/lang/invoke/MethodHandle" ∧ yX12_reached.cls ≠ "java/lang/invoke/VarHandle" ∧ (parseMethodDescriptor yX12_reached.desc).map (fun d => d.parameters.length) = some 2) := ⟨mem_big (List.mem_of_getElem? (i := 134) (by decide +kernel)) (by decide +kernel), by decide +kernel⟩
theorem km_X12_589 : LkV RX12 589 yX12_reached cX12_reached 3 (some .boolean) 2 := ⟨⟨kd_X12_reached, mem_big (List.mem_of_getElem? (i := 1790) (by decide +kernel)) (by decide +kernel), kp_X12_reached.1, kp_X12_reached.2⟩, ks_X12_reached⟩
theorem kd_X12_spend : Cond.code yX12_spend cX12_spend 3 (some .int) ∈ big := mem_big (List.mem_of_getElem? (i := 1566) (by decide +kernel)) (by decide +kernel)
theorem ks_X12_spend : Cond.instanceMethod yX12_spend ∈ big ∧ Cond.selects yX12_spend.cls yX12_spend yX12_spend ∈ big := ⟨mem_big (List.mem_of_getElem? (i := 1565) (by decide +kernel)) (by decide +kernel), mem_big (List.mem_of_getElem? (i := 73) (by decide +kernel)) (by decide +kernel)⟩
theorem kp_X12_spend : Cond.initialized yX12_spend.cls ∈ big ∧ (yX12_spend.cls ≠ "java/lang/invoke/MethodHandle" ∧ yX12_spend.cls ≠ "java/lang/invoke/VarHandle" ∧ (parseMethodDescriptor yX12_spend.desc).map (fun d => d.parameters.length) = some 1) := ⟨mem_big (List.mem_of_getElem? (i := 134) (by decide +kernel)) (by decide +kernel), by decide +kernel⟩
theorem km_X12_592 : LkV RX12 592 yX12_spend cX12_spend 3 (some .int) 1 := ⟨⟨kd_X12_spend, mem_big (List.mem_of_getElem? (i := 1563) (by decide +kernel)) (by decide +kernel), kp_X12_spend.1, kp_X12_spend.2⟩, ks_X12_spend⟩
theorem kd_X12_findLost : Cond.code yX12_findLost cX12_findLost 4 none ∈ big := mem_big (List.mem_of_getElem? (i := 1765) (by decide +kernel)) (by decide +kernel)
theorem ks_X12_findLost : Cond.instanceMethod yX12_findLost ∈ big ∧ Cond.selects yX12_findLost.cls yX12_findLost yX12_findLost ∈ big := ⟨mem_big (List.mem_of_getElem? (i := 1764) (by decide +kernel)) (by decide +kernel), mem_big (List.mem_of_getElem? (i := 111) (by decide +kernel)) (by decide +kernel)⟩
theorem kp_X12_findLost : Cond.initialized yX12_findLost.cls ∈ big ∧ (yX12_findLost.cls ≠ "java/lang/invoke/MethodHandle" ∧ yX12_findLost.cls ≠ "java/lang/invoke/VarHandle" ∧ (parseMethodDescriptor yX12_findLost.desc).map (fun d => d.parameters.length) = some 0) := ⟨mem_big (List.mem_of_getElem? (i := 134) (by decide +kernel)) (by decide +kernel), by decide +kernel⟩
theorem km_X12_595 : LkV RX12 595 yX12_findLost cX12_findLost 4 none 0 := ⟨⟨kd_X12_findLost, mem_big (List.mem_of_getElem? (i := 1762) (by decide +kernel)) (by decide +kernel), kp_X12_findLost.1, kp_X12_findLost.2⟩, ks_X12_findLost⟩
