/-! ===== stores and worlds: a fixed shape of objects; numbers of objects are numerals, ad gives their addresses ===== -/
abbrev St : Type := (Nat → Nat → Int32) × (Nat → Nat → Int64) × (Nat → Nat)
def uC (s : St) (k : Nat) (f : Nat → Int32) : St := (va_up s.1 k f, s.2.1, s.2.2)
def uI (s : St) (k j : Nat) (v : Int32) : St := uC s k (upd (s.1 k) j v)
def uJ (s : St) (k j : Nat) (v : Int64) : St := (s.1, va_up s.2.1 k (vp_updL (s.2.1 k) j v), s.2.2)
def uR (s : St) (q v : Nat) : St := (s.1, s.2.1, va_up s.2.2 q v)
/-- number of cells, kind of each (below 100: class of vwCl; 100 int[], 101 long[], 102 boolean[], 103 byte[], 104 Datum[]), length, references: a constant, or a changing one -/
abbrev Sh : Type := Nat × (Nat → Nat) × (Nat → Nat) × (Nat → Nat → Option (Nat ⊕ Nat)) × ((Nat → Nat) → (Nat → Prop) → State → Prop)
def fTs : List (List Nat) := [[2,2,2,2,0,2,2,2,0,2,0,0,0],[0,0,0],[2,2,2,2,2,0,2,2,0,0,0],[2,2,0],[2,2,2,2,0,0,0,2,2,2,0],[2,2,2,2,2,2,2,2,0,0,0,0,0,0,0,2,0,2,0],[2,2,2,2,0,0],[2,2,2,0,2,0],[2,0,0,0,0,1,0],[2,0,2,2,2,0,2,2,0],[2,0,2,0,2,2,2,2,2,2,2,2,2,2,0,0,0,0,0,0,0,0,0,0,0,0,0,0,0,0,2,2,2,2,2,2,2,2,2,2,2,2,2,2,2,2,2,2,2,2,2,2,2,2,2,0,0,2,2,2,2,0,0,0,0,2,2,2,0,0,2,2,2,0,2]]
def fT (c j : Nat) : Nat := (fTs.getD c []).getD j 0
def nf (c : Nat) : Nat := (fTs.getD c []).length
def rv (S : Sh) (s : St) (k j : Nat) : Option Nat := match S.2.2.2.1 k j with
  | some (.inl c) => some c
  | some (.inr q) => if s.2.2 q = 999 then none else some (s.2.2 q)
  | none => none
def fv (S : Sh) (ad : Nat → Nat) (s : St) (k j : Nat) : Value := if fT (S.2.1 k) j = 0 then .int (s.1 k j) else if fT (S.2.1 k) j = 1 then .long (s.2.1 k j) else va_rf ((rv S s k j).map ad)
def fl (S : Sh) (ad : Nat → Nat) (s : St) (k : Nat) : List Value := (List.range (nf (S.2.1 k))).map (fv S ad s k)
def ce (S : Sh) (ad : Nat → Nat) (cy : Nat → ClassId) (s : St) (k : Nat) : va_E :=
  if S.2.1 k < 100 then .inr (S.2.1 k, fl S ad s k) else if S.2.1 k = 101 then .inl (cy 101, S.2.2.1 k, .inr (.inl (s.2.1 k)))
  else if S.2.1 k = 104 then .inl (cy 104, S.2.2.1 k, .inr (.inr (.inr (.inr (fun j => (rv S s k j).map ad))))) else .inl (cy (S.2.1 k), S.2.2.1 k, .inl (s.1 k))
def wd (S : Sh) (ad : Nat → Nat) (cy : Nat → ClassId) (s : St) : va_W := (List.range S.1).map fun k => (ad k, ce S ad cy s k)
def tys (cy : Nat → ClassId) : List (ClassId × FieldType) := [(cy 100, .int), (cy 101, .long), (cy 102, .boolean), (cy 103, .byte), (cy 104, .object "ShadeBench$Datum")]
theorem wd_get {S : Sh} {ad : Nat → Nat} {cy : Nat → ClassId} {s : St} {k : Nat} (hk : k < S.1) : (wd S ad cy s)[k]? = some (ad k, ce S ad cy s k) := by
  simp [wd, hk]
theorem wd_len {S : Sh} {ad : Nat → Nat} {cy : Nat → ClassId} {s : St} : (wd S ad cy s).length = S.1 := by simp [wd]
theorem wd_some {S : Sh} {ad : Nat → Nat} {cy : Nat → ClassId} {s : St} {k : Nat} {q : Nat × va_E} (h : (wd S ad cy s)[k]? = some q) : k < S.1 ∧ q = (ad k, ce S ad cy s k) := by
  have hk : k < S.1 := by
    have := (List.getElem?_eq_some_iff.mp h).1
    rw [wd_len] at this; exact this
  rw [wd_get hk] at h
  exact ⟨hk, (Option.some.inj h).symm⟩
theorem wd_set {S : Sh} {ad : Nat → Nat} {cy : Nat → ClassId} {s s' : St} {k : Nat} {e : va_E} (hk : k < S.1) (h1 : ce S ad cy s' k = e) (h2 : ∀ i, i ≠ k → ce S ad cy s' i = ce S ad cy s i) : (wd S ad cy s).set k (ad k, e) = wd S ad cy s' := by
  apply List.ext_getElem?
  intro i
  by_cases hi : i = k
  · subst hi
    rw [List.getElem?_set_self (by rw [wd_len]; exact hk), wd_get hk, h1]
  · rw [List.getElem?_set_ne (Ne.symm hi)]
    by_cases hS : i < S.1
    · rw [wd_get hS, wd_get hS, h2 i hi]
    · rw [List.getElem?_eq_none (by rw [wd_len]; omega), List.getElem?_eq_none (by rw [wd_len]; omega)]
theorem fl_len {S : Sh} {ad : Nat → Nat} {s : St} {k : Nat} : (fl S ad s k).length = nf (S.2.1 k) := by simp [fl]
theorem fl_get {S : Sh} {ad : Nat → Nat} {s : St} {k j : Nat} (hj : j < nf (S.2.1 k)) : (fl S ad s k)[j]? = some (fv S ad s k j) := by simp [fl, hj]
theorem fl_set {S : Sh} {ad : Nat → Nat} {s s' : St} {k j : Nat} {v : Value} (hj : j < nf (S.2.1 k)) (h1 : fv S ad s' k j = v) (h2 : ∀ i, i ≠ j → fv S ad s' k i = fv S ad s k i) : (fl S ad s k).set j v = fl S ad s' k := by
  apply List.ext_getElem?
  intro i
  by_cases hi : i = j
  · subst hi
    rw [List.getElem?_set_self (by rw [fl_len]; exact hj), fl_get hj, h1]
  · rw [List.getElem?_set_ne (Ne.symm hi)]
    by_cases hS : i < nf (S.2.1 k)
    · rw [fl_get hS, fl_get hS, h2 i hi]
    · rw [List.getElem?_eq_none (by rw [fl_len]; omega), List.getElem?_eq_none (by rw [fl_len]; omega)]
theorem uC_1 {s : St} {k : Nat} {f : Nat → Int32} : (uC s k f).1 k = f := by simp [uC, va_up]
theorem uC_n {s : St} {k i : Nat} {f : Nat → Int32} (h : i ≠ k) : (uC s k f).1 i = s.1 i := by simp [uC, va_up, h]
theorem uJ_1 {s : St} {k j : Nat} {v : Int64} : (uJ s k j v).2.1 k = vp_updL (s.2.1 k) j v := by simp [uJ, va_up]
theorem uJ_n {s : St} {k i j : Nat} {v : Int64} (h : i ≠ k) : (uJ s k j v).2.1 i = s.2.1 i := by simp [uJ, va_up, h]
theorem fv_uC {S : Sh} {ad : Nat → Nat} {s : St} {k i j : Nat} {f : Nat → Int32} (h : i ≠ k) : fv S ad (uC s k f) i j = fv S ad s i j := by
  unfold fv; rw [uC_n h]; rfl
theorem ce_uC {S : Sh} {ad : Nat → Nat} {cy : Nat → ClassId} {s : St} {k i : Nat} {f : Nat → Int32} (h : i ≠ k) : ce S ad cy (uC s k f) i = ce S ad cy s i := by
  have e : fl S ad (uC s k f) i = fl S ad s i := by unfold fl; exact List.map_congr_left (fun j _ => fv_uC h)
  unfold ce; rw [e, uC_n h]; rfl
theorem ce_uJ {S : Sh} {ad : Nat → Nat} {cy : Nat → ClassId} {s : St} {k i j : Nat} {v : Int64} (h : i ≠ k) : ce S ad cy (uJ s k j v) i = ce S ad cy s i := by
  have e : fl S ad (uJ s k j v) i = fl S ad s i := by unfold fl; exact List.map_congr_left (fun b _ => by unfold fv; rw [uJ_n h]; rfl)
  unfold ce; rw [e, uJ_n h]; rfl
/-- an array of ints (booleans, bytes) -/
theorem ce_arr {S : Sh} {ad : Nat → Nat} {cy : Nat → ClassId} {s : St} {k t n : Nat} (h : S.2.1 k = t) (ht : t = 100 ∨ t = 102 ∨ t = 103) (hn : S.2.2.1 k = n) : ce S ad cy s k = .inl (cy t, n, .inl (s.1 k)) := by
  unfold ce; rw [h, hn]; rcases ht with rfl | rfl | rfl <;> simp
theorem ce_arrJ {S : Sh} {ad : Nat → Nat} {cy : Nat → ClassId} {s : St} {k n : Nat} (h : S.2.1 k = 101) (hn : S.2.2.1 k = n) : ce S ad cy s k = .inl (cy 101, n, .inr (.inl (s.2.1 k))) := by
  unfold ce; rw [h, hn]; simp
theorem ce_arrR {S : Sh} {ad : Nat → Nat} {cy : Nat → ClassId} {s : St} {k n : Nat} (h : S.2.1 k = 104) (hn : S.2.2.1 k = n) : ce S ad cy s k = .inl (cy 104, n, .inr (.inr (.inr (.inr (fun j => (rv S s k j).map ad))))) := by
  unfold ce; rw [h, hn]; simp
theorem ce_obj {S : Sh} {ad : Nat → Nat} {cy : Nat → ClassId} {s : St} {k t : Nat} (h : S.2.1 k = t) (ht : t < 100) : ce S ad cy s k = .inr (t, fl S ad s k) := by
  unfold ce; rw [h, if_pos ht]
/-! ===== the judgement ===== -/
abbrev GG : Type := (Jvm.Program × Launch × Env × Room × State × MethodId × Array Value × List Frame × Method × Code) × (va_G × (Nat → Prop) × (Nat → Nat) × (Nat → ClassId)) × Nat × (State → Prop) × Nat × Nat
abbrev gp (G : GG) : Jvm.Program := G.1.1
abbrev gl (G : GG) : Launch := G.1.2.1
abbrev ge (G : GG) : Env := G.1.2.2.1
abbrev gR (G : GG) : Room := G.1.2.2.2.1
abbrev gs (G : GG) : State := G.1.2.2.2.2.1
abbrev gm (G : GG) : MethodId := G.1.2.2.2.2.2.1
abbrev ga (G : GG) : Array Value := G.1.2.2.2.2.2.2.1
abbrev gb (G : GG) : List Frame := G.1.2.2.2.2.2.2.2.1
abbrev gh (G : GG) : Method := G.1.2.2.2.2.2.2.2.2.1
abbrev gc (G : GG) : Code := G.1.2.2.2.2.2.2.2.2.2
abbrev gD (G : GG) : va_G := G.2.1.1
abbrev gA (G : GG) : Nat → Prop := G.2.1.2.1
abbrev ad (G : GG) : Nat → Nat := G.2.1.2.2.1
abbrev gy (G : GG) : Nat → ClassId := G.2.1.2.2.2
abbrev gL (G : GG) : Nat := G.2.2.1
abbrev gQ (G : GG) : State → Prop := G.2.2.2.1
abbrev gk (G : GG) : Nat := G.2.2.2.2.1
abbrev gn (G : GG) : Nat := G.2.2.2.2.2
/-- what else stands fast, outside the world (texts): it goes on to later states -/
def okX (X : (Nat → Nat) → (Nat → Prop) → State → Prop) : Prop := ∀ (a : Nat → Nat) (A B : Nat → Prop) (s U : State), X a A s → (s.WarmedH U.vm ∨ U.vm = s.vm) → (∀ q, q < s.heap.size → ¬ A q → U.heap[q]? = s.heap[q]?) → (∀ q, B q → A q) → X a B U
def KK (S : Sh) (G : GG) (pc : Nat) (lv : List (Nat × Value)) (st : List Value) (s : St) : Prop :=
  ∀ (H : Heap) (locs : List Loc) (ls : Array Slot), va_P (gD G) vwCl (wd S (ad G) (gy G) s) H → va_S (gA G) (gs G).heap H locs → lv_has ls (gL G) lv → W (gp G) (gl G) (ge G) (gR G) (gs G) (gm G) (ga G) (gb G) (gh G) (gc G) H locs (gk G) (gn G) (gQ G) (F0 (gm G) pc ls st)
/-- what stands fast within a method's body -/
def Cx (S : Sh) (G : GG) (cc : ByteArray) (own : String) : Prop :=
  (gp G).tables.exec = Jvm.exec ∧ (gc G).code = cc ∧ (gc G).maxLocals = gL G ∧ (gs G).vm.findClass own = some (gm G).cls ∧ (∀ w ∈ big, w.before (ga G) (gs G) = true) ∧ va_K (gD G) vwCl (tys (gy G)) (gs G) ∧ (∀ s, va_D (gA G) (wd S (ad G) (gy G) s)) ∧ ((∀ q, (gs G).heap.size ≤ q → gA G q) ∧ (gk G ≤ (gR G).cells ∧ gn G ≤ (gR G).slots)) ∧ okX S.2.2.2.2 ∧ S.2.2.2.2 (ad G) (gA G) (gs G)
def JJ (S : Sh) (G : GG) {β : Type} (Acc : β → Prop) (o : Option β) (pc : Nat) (lv : List (Nat × Value)) (st : List Value) (s : St) : Prop := (∃ v, o = some v ∧ Acc v) → KK S G pc lv st s
/-- an index looked at -/
def gd {β : Type} (i : Int32) (n : Nat) (o : Option β) : Option β := if i < 0 ∨ n ≤ i.toNatClampNeg then none else o
/-- a value gets a name -/
def lt {α β : Type} (e : α) (f : α → Option β) : Option β := f e
/-- a truth value looked at -/
def gz {β : Type} (v : Int32) (o : Option β) : Option β := if v = 0 ∨ v = 1 then o else none
abbrev bN (v : Int32) : Int32 := vp_nar .boolean v
theorem narrow_z (v : Int32) : narrow .boolean (.int v) = .int (bN v) := by simp [vp_nar, narrow]
section ROWS
variable {S : Sh} {G : GG} {cc : ByteArray} {own : String} {β : Type} {Acc : β → Prop} {o A B : Option β} {pc : Nat} {lv : List (Nat × Value)} {st : List Value} {s : St}
theorem jo_pos {c : Prop} {_ : Decidable c} (h : c) (k : JJ S G Acc A pc lv st s) : JJ S G Acc (if c then A else B) pc lv st s := by rw [if_pos h]; exact k
theorem jo_neg {c : Prop} {_ : Decidable c} (h : ¬ c) (k : JJ S G Acc B pc lv st s) : JJ S G Acc (if c then A else B) pc lv st s := by rw [if_neg h]; exact k
theorem jo_posP {c : Prop} {_ : Decidable c} {a b : β} (h : c) (k : JJ S G Acc (some a) pc lv st s) : JJ S G Acc (some (if c then a else b)) pc lv st s := by rw [if_pos h]; exact k
theorem jo_negP {c : Prop} {_ : Decidable c} {a b : β} (h : ¬ c) (k : JJ S G Acc (some b) pc lv st s) : JJ S G Acc (some (if c then a else b)) pc lv st s := by rw [if_neg h]; exact k
theorem jo_gd {i : Int32} {n : Nat} (k : vp_in i n → JJ S G Acc o pc lv st s) : JJ S G Acc (gd i n o) pc lv st s := by
  unfold gd
  by_cases h : i < 0 ∨ n ≤ i.toNatClampNeg
  · rw [if_pos h]; rintro ⟨v, hv, -⟩; cases hv
  · rw [if_neg h]; exact k h
theorem jo_gz {v : Int32} (k : (v = 0 ∨ v = 1) → JJ S G Acc o pc lv st s) : JJ S G Acc (gz v o) pc lv st s := by
  unfold gz
  by_cases h : v = 0 ∨ v = 1
  · rw [if_pos h]; exact k h
  · rw [if_neg h]; rintro ⟨v, hv, -⟩; cases hv
theorem jo_if {c : Prop} {_ : Decidable c} (k : c → JJ S G Acc o pc lv st s) : JJ S G Acc (if c then o else none) pc lv st s := by
  by_cases h : c
  · rw [if_pos h]; exact k h
  · rw [if_neg h]; rintro ⟨v, hv, -⟩; cases hv
theorem jo_ifn {c : Prop} {_ : Decidable c} (k : ¬ c → JJ S G Acc o pc lv st s) : JJ S G Acc (if c then none else o) pc lv st s := by
  by_cases h : c
  · rw [if_pos h]; rintro ⟨v, hv, -⟩; cases hv
  · rw [if_neg h]; exact k h
theorem jr_ltS {f : St → Option β} (k : ∀ s1, JJ S G Acc (f s1) pc lv st s1) : JJ S G Acc (lt s f) pc lv st s := k s
theorem jr_ltI {f : Int32 → Option β} {e : Int32} (k : ∀ x, JJ S G Acc (f x) pc lv (.int x :: st) s) : JJ S G Acc (lt e f) pc lv (.int e :: st) s := k e
theorem jr_ltJ {f : Int64 → Option β} {e : Int64} (k : ∀ x, JJ S G Acc (f x) pc lv (.long x :: st) s) : JJ S G Acc (lt e f) pc lv (.long e :: st) s := k e
theorem jo_eq {o' : Option β} (h : o = o') (k : JJ S G Acc o' pc lv st s) : JJ S G Acc o pc lv st s := h ▸ k
theorem jr_end {v : β} (h : Acc v → KK S G pc lv st s) : JJ S G Acc (some v) pc lv st s := by
  rintro ⟨u, hu, ha⟩; cases hu; exact h ha
theorem jr_st {st' : List Value} {s' : St} {lv' : List (Nat × Value)} (h1 : lv = lv') (h2 : st = st') (h3 : s = s') (k : JJ S G Acc o pc lv' st' s') : JJ S G Acc o pc lv st s := by subst h1; subst h2; subst h3; exact k
/-- other locals: fewer, or in another order -/
theorem jr_lv {lv' : List (Nat × Value)} (ks : List Nat) (h : lv_pick lv ks = lv') (k : JJ S G Acc o pc lv' st s) : JJ S G Acc o pc lv st s := fun ho H locs ls hP hS hl => k ho H locs ls hP hS (lv_sub hl ks h)
theorem jr_iconst (C : Cx S G cc own) {n : Int} {v : Int32} (hv : Int32.ofInt n = v) (d : decode cc pc = .ok (.iconst n, 1)) (k : JJ S G Acc o (pc + 1) lv (.int v :: st) s) : JJ S G Acc o pc lv (st) s := fun ho H locs ls hP hS hl => lv_iconst C.1 C.2.1 d hv (k ho H locs ls hP hS hl)
theorem jr_bipush (C : Cx S G cc own) {n : Int} {v : Int32} (hv : (Int8.ofInt n).toInt32 = v) (d : decode cc pc = .ok (.bipush n, 2)) (k : JJ S G Acc o (pc + 2) lv (.int v :: st) s) : JJ S G Acc o pc lv (st) s := fun ho H locs ls hP hS hl => lv_bipush C.1 C.2.1 d hv (k ho H locs ls hP hS hl)
theorem jr_sipush (C : Cx S G cc own) {n : Int} {v : Int32} (hv : (Int16.ofInt n).toInt32 = v) (d : decode cc pc = .ok (.sipush n, 3)) (k : JJ S G Acc o (pc + 3) lv (.int v :: st) s) : JJ S G Acc o pc lv (st) s := fun ho H locs ls hP hS hl => lv_sipush C.1 C.2.1 d hv (k ho H locs ls hP hS hl)
theorem jr_lconst (C : Cx S G cc own) {n : Fin 2} {v : Int64} (hv : Int64.ofNat (n : Nat) = v) (d : decode cc pc = .ok (.lconst n, 1)) (k : JJ S G Acc o (pc + 1) lv (.long v :: st) s) : JJ S G Acc o pc lv (st) s := fun ho H locs ls hP hS hl => lv_lconst C.1 C.2.1 d hv (k ho H locs ls hP hS hl)
theorem jr_iadd (C : Cx S G cc own) {x y : Int32} (d : decode cc pc = .ok (.iadd, 1)) (k : JJ S G Acc o (pc + 1) lv (.int (x + y) :: st) s) : JJ S G Acc o pc lv (.int y :: .int x :: st) s := fun ho H locs ls hP hS hl => lv_iadd C.1 C.2.1 d  (k ho H locs ls hP hS hl)
theorem jr_isub (C : Cx S G cc own) {x y : Int32} (d : decode cc pc = .ok (.isub, 1)) (k : JJ S G Acc o (pc + 1) lv (.int (x - y) :: st) s) : JJ S G Acc o pc lv (.int y :: .int x :: st) s := fun ho H locs ls hP hS hl => lv_isub C.1 C.2.1 d  (k ho H locs ls hP hS hl)
theorem jr_imul (C : Cx S G cc own) {x y : Int32} (d : decode cc pc = .ok (.imul, 1)) (k : JJ S G Acc o (pc + 1) lv (.int (x * y) :: st) s) : JJ S G Acc o pc lv (.int y :: .int x :: st) s := fun ho H locs ls hP hS hl => lv_imul C.1 C.2.1 d  (k ho H locs ls hP hS hl)
theorem jr_iand (C : Cx S G cc own) {x y : Int32} (d : decode cc pc = .ok (.iand, 1)) (k : JJ S G Acc o (pc + 1) lv (.int (x &&& y) :: st) s) : JJ S G Acc o pc lv (.int y :: .int x :: st) s := fun ho H locs ls hP hS hl => lv_iand C.1 C.2.1 d  (k ho H locs ls hP hS hl)
theorem jr_ior (C : Cx S G cc own) {x y : Int32} (d : decode cc pc = .ok (.ior, 1)) (k : JJ S G Acc o (pc + 1) lv (.int (x ||| y) :: st) s) : JJ S G Acc o pc lv (.int y :: .int x :: st) s := fun ho H locs ls hP hS hl => lv_ior C.1 C.2.1 d  (k ho H locs ls hP hS hl)
theorem jr_ixor (C : Cx S G cc own) {x y : Int32} (d : decode cc pc = .ok (.ixor, 1)) (k : JJ S G Acc o (pc + 1) lv (.int (x ^^^ y) :: st) s) : JJ S G Acc o pc lv (.int y :: .int x :: st) s := fun ho H locs ls hP hS hl => lv_ixor C.1 C.2.1 d  (k ho H locs ls hP hS hl)
theorem jr_ishl (C : Cx S G cc own) {x y : Int32} (d : decode cc pc = .ok (.ishl, 1)) (k : JJ S G Acc o (pc + 1) lv (.int (x <<< (y &&& 31)) :: st) s) : JJ S G Acc o pc lv (.int y :: .int x :: st) s := fun ho H locs ls hP hS hl => lv_ishl C.1 C.2.1 d  (k ho H locs ls hP hS hl)
theorem jr_ishr (C : Cx S G cc own) {x y : Int32} (d : decode cc pc = .ok (.ishr, 1)) (k : JJ S G Acc o (pc + 1) lv (.int (x >>> (y &&& 31)) :: st) s) : JJ S G Acc o pc lv (.int y :: .int x :: st) s := fun ho H locs ls hP hS hl => lv_ishr C.1 C.2.1 d  (k ho H locs ls hP hS hl)
theorem jr_ladd (C : Cx S G cc own) {x y : Int64} (d : decode cc pc = .ok (.ladd, 1)) (k : JJ S G Acc o (pc + 1) lv (.long (x + y) :: st) s) : JJ S G Acc o pc lv (.long y :: .long x :: st) s := fun ho H locs ls hP hS hl => lv_ladd C.1 C.2.1 d  (k ho H locs ls hP hS hl)
theorem jr_lsub (C : Cx S G cc own) {x y : Int64} (d : decode cc pc = .ok (.lsub, 1)) (k : JJ S G Acc o (pc + 1) lv (.long (x - y) :: st) s) : JJ S G Acc o pc lv (.long y :: .long x :: st) s := fun ho H locs ls hP hS hl => lv_lsub C.1 C.2.1 d  (k ho H locs ls hP hS hl)
theorem jr_lmul (C : Cx S G cc own) {x y : Int64} (d : decode cc pc = .ok (.lmul, 1)) (k : JJ S G Acc o (pc + 1) lv (.long (x * y) :: st) s) : JJ S G Acc o pc lv (.long y :: .long x :: st) s := fun ho H locs ls hP hS hl => lv_lmul C.1 C.2.1 d  (k ho H locs ls hP hS hl)
theorem jr_land (C : Cx S G cc own) {x y : Int64} (d : decode cc pc = .ok (.land, 1)) (k : JJ S G Acc o (pc + 1) lv (.long (x &&& y) :: st) s) : JJ S G Acc o pc lv (.long y :: .long x :: st) s := fun ho H locs ls hP hS hl => lv_land C.1 C.2.1 d  (k ho H locs ls hP hS hl)
theorem jr_lor (C : Cx S G cc own) {x y : Int64} (d : decode cc pc = .ok (.lor, 1)) (k : JJ S G Acc o (pc + 1) lv (.long (x ||| y) :: st) s) : JJ S G Acc o pc lv (.long y :: .long x :: st) s := fun ho H locs ls hP hS hl => lv_lor C.1 C.2.1 d  (k ho H locs ls hP hS hl)
theorem jr_idiv (C : Cx S G cc own) {x y : Int32} (hy : ¬ y = 0) (d : decode cc pc = .ok (.idiv, 1)) (k : JJ S G Acc o (pc + 1) lv (.int (x / y) :: st) s) : JJ S G Acc o pc lv (.int y :: .int x :: st) s := fun ho H locs ls hP hS hl => lv_idiv C.1 C.2.1 d hy (k ho H locs ls hP hS hl)
theorem jr_irem (C : Cx S G cc own) {x y : Int32} (hy : ¬ y = 0) (d : decode cc pc = .ok (.irem, 1)) (k : JJ S G Acc o (pc + 1) lv (.int (x - x / y * y) :: st) s) : JJ S G Acc o pc lv (.int y :: .int x :: st) s := fun ho H locs ls hP hS hl => lv_irem C.1 C.2.1 d hy (k ho H locs ls hP hS hl)
theorem jr_iushr (C : Cx S G cc own) {x y : Int32} (d : decode cc pc = .ok (.iushr, 1)) (k : JJ S G Acc o (pc + 1) lv (.int ((x.toUInt32 >>> (y.toUInt32 &&& Int32.toUInt32 31)).toInt32) :: st) s) : JJ S G Acc o pc lv (.int y :: .int x :: st) s := fun ho H locs ls hP hS hl => lv_iushr C.1 C.2.1 d rfl (k ho H locs ls hP hS hl)
theorem jr_lshl (C : Cx S G cc own) {x : Int64} {y : Int32} (d : decode cc pc = .ok (.lshl, 1)) (k : JJ S G Acc o (pc + 1) lv (.long (x <<< (y.toInt64 &&& 63)) :: st) s) : JJ S G Acc o pc lv (.int y :: .long x :: st) s := fun ho H locs ls hP hS hl => lv_lshl C.1 C.2.1 d rfl (k ho H locs ls hP hS hl)
theorem jr_ineg (C : Cx S G cc own) {x : Int32} (d : decode cc pc = .ok (.ineg, 1)) (k : JJ S G Acc o (pc + 1) lv (.int (-x) :: st) s) : JJ S G Acc o pc lv (.int x :: st) s := fun ho H locs ls hP hS hl => lv_ineg C.1 C.2.1 d  (k ho H locs ls hP hS hl)
theorem jr_lneg (C : Cx S G cc own) {x : Int64} (d : decode cc pc = .ok (.lneg, 1)) (k : JJ S G Acc o (pc + 1) lv (.long (-x) :: st) s) : JJ S G Acc o pc lv (.long x :: st) s := fun ho H locs ls hP hS hl => lv_lneg C.1 C.2.1 d  (k ho H locs ls hP hS hl)
theorem jr_i2l (C : Cx S G cc own) {x : Int32} (d : decode cc pc = .ok (.i2l, 1)) (k : JJ S G Acc o (pc + 1) lv (.long x.toInt64 :: st) s) : JJ S G Acc o pc lv (.int x :: st) s := fun ho H locs ls hP hS hl => lv_i2l C.1 C.2.1 d rfl (k ho H locs ls hP hS hl)
theorem jr_l2i (C : Cx S G cc own) {x : Int64} (d : decode cc pc = .ok (.l2i, 1)) (k : JJ S G Acc o (pc + 1) lv (.int x.toInt32 :: st) s) : JJ S G Acc o pc lv (.long x :: st) s := fun ho H locs ls hP hS hl => lv_l2i C.1 C.2.1 d rfl (k ho H locs ls hP hS hl)
theorem jr_i2b (C : Cx S G cc own) {x : Int32} (d : decode cc pc = .ok (.i2b, 1)) (k : JJ S G Acc o (pc + 1) lv (.int x.toInt8.toInt32 :: st) s) : JJ S G Acc o pc lv (.int x :: st) s := fun ho H locs ls hP hS hl => lv_i2b C.1 C.2.1 d rfl (k ho H locs ls hP hS hl)
theorem jr_i2s (C : Cx S G cc own) {x : Int32} (d : decode cc pc = .ok (.i2s, 1)) (k : JJ S G Acc o (pc + 1) lv (.int x.toInt16.toInt32 :: st) s) : JJ S G Acc o pc lv (.int x :: st) s := fun ho H locs ls hP hS hl => lv_i2s C.1 C.2.1 d rfl (k ho H locs ls hP hS hl)
theorem jr_lcmp (C : Cx S G cc own) {x y : Int64} (d : decode cc pc = .ok (.lcmp, 1)) (k : JJ S G Acc o (pc + 1) lv (.int (lg_cmp x y) :: st) s) : JJ S G Acc o pc lv (.long y :: .long x :: st) s := fun ho H locs ls hP hS hl => W.lcmp C.1 C.2.1 d (k ho H locs ls hP hS hl)
theorem jr_dup (C : Cx S G cc own) {va : Value} (h1 : va.category = 1) (d : decode cc pc = .ok (.dup, 1)) (k : JJ S G Acc o (pc + 1) lv (va :: va :: st) s) : JJ S G Acc o pc lv (va :: st) s := fun ho H locs ls hP hS hl => lv_dup C.1 C.2.1 d h1 (k ho H locs ls hP hS hl)
theorem jr_pop (C : Cx S G cc own) {va : Value} (h1 : va.category = 1) (d : decode cc pc = .ok (.pop, 1)) (k : JJ S G Acc o (pc + 1) lv (st) s) : JJ S G Acc o pc lv (va :: st) s := fun ho H locs ls hP hS hl => lv_pop C.1 C.2.1 d h1 (k ho H locs ls hP hS hl)
theorem jr_dup_x1 (C : Cx S G cc own) {va vb : Value} (h1 : va.category = 1) (h2 : vb.category = 1) (d : decode cc pc = .ok (.dup_x1, 1)) (k : JJ S G Acc o (pc + 1) lv (va :: vb :: va :: st) s) : JJ S G Acc o pc lv (va :: vb :: st) s := fun ho H locs ls hP hS hl => lv_dup_x1 C.1 C.2.1 d h1 h2 (k ho H locs ls hP hS hl)
theorem jr_dup_x2 (C : Cx S G cc own) {va vb vd : Value} (h1 : va.category = 1) (h2 : vb.category = 1) (h3 : vd.category = 1) (d : decode cc pc = .ok (.dup_x2, 1)) (k : JJ S G Acc o (pc + 1) lv (va :: vb :: vd :: va :: st) s) : JJ S G Acc o pc lv (va :: vb :: vd :: st) s := fun ho H locs ls hP hS hl => lv_dup_x2 C.1 C.2.1 d h1 h2 h3 (k ho H locs ls hP hS hl)
theorem jr_dup2 (C : Cx S G cc own) {va vb : Value} (h1 : va.category = 1) (h2 : vb.category = 1) (d : decode cc pc = .ok (.dup2, 1)) (k : JJ S G Acc o (pc + 1) lv (va :: vb :: va :: vb :: st) s) : JJ S G Acc o pc lv (va :: vb :: st) s := fun ho H locs ls hP hS hl => lv_dup2_11 C.1 C.2.1 d h1 h2 (k ho H locs ls hP hS hl)
theorem jr_iload_n (C : Cx S G cc own) {n : Fin 4} {i : Nat} {x : Int32} (q : Nat) (hq : lv[q]? = some (i, .int x)) (hi : (n : Nat) = i) (d : decode cc pc = .ok (.iload_n n, 1)) (k : JJ S G Acc o (pc + 1) lv (.int x :: st) s) : JJ S G Acc o pc lv st s := fun ho H locs ls hP hS hl => lv_iload_n C.1 C.2.1 d hi (lv_at hl q hq) (k ho H locs ls hP hS hl)
theorem jr_iload (C : Cx S G cc own) {i : Nat} {x : Int32} (q : Nat) (hq : lv[q]? = some (i, .int x)) (d : decode cc pc = .ok (.iload i, 2)) (k : JJ S G Acc o (pc + 2) lv (.int x :: st) s) : JJ S G Acc o pc lv st s := fun ho H locs ls hP hS hl => lv_iload C.1 C.2.1 d (lv_at hl q hq) (k ho H locs ls hP hS hl)
theorem jr_istore_n (C : Cx S G cc own) {n : Fin 4} {i : Nat} {x : Int32} {lv' : List (Nat × Value)} (hn : i < gL G) (hl' : (i, Value.int x) :: lv.filter (fun q => !(q.1 == i) && !(q.1 + 1 == i && q.2.category == 2)) = lv') (hi : (n : Nat) = i) (d : decode cc pc = .ok (.istore_n n, 1)) (k : JJ S G Acc o (pc + 1) lv' st s) : JJ S G Acc o pc lv (.int x :: st) s := fun ho H locs ls hP hS hl => lv_istore_n C.1 C.2.1 d hi hl hn hl' (fun ls h => k ho H locs ls hP hS h)
theorem jr_istore (C : Cx S G cc own) {i : Nat} {x : Int32} {lv' : List (Nat × Value)} (hn : i < gL G) (hl' : (i, Value.int x) :: lv.filter (fun q => !(q.1 == i) && !(q.1 + 1 == i && q.2.category == 2)) = lv') (d : decode cc pc = .ok (.istore i, 2)) (k : JJ S G Acc o (pc + 2) lv' st s) : JJ S G Acc o pc lv (.int x :: st) s := fun ho H locs ls hP hS hl => lv_istore C.1 C.2.1 d hl hn hl' (fun ls h => k ho H locs ls hP hS h)
theorem jr_lload_n (C : Cx S G cc own) {n : Fin 4} {i : Nat} {x : Int64} (q : Nat) (hq : lv[q]? = some (i, .long x)) (hi : (n : Nat) = i) (d : decode cc pc = .ok (.lload_n n, 1)) (k : JJ S G Acc o (pc + 1) lv (.long x :: st) s) : JJ S G Acc o pc lv st s := fun ho H locs ls hP hS hl => lv_lload_n C.1 C.2.1 d hi (lv_at hl q hq) (k ho H locs ls hP hS hl)
theorem jr_lload (C : Cx S G cc own) {i : Nat} {x : Int64} (q : Nat) (hq : lv[q]? = some (i, .long x)) (d : decode cc pc = .ok (.lload i, 2)) (k : JJ S G Acc o (pc + 2) lv (.long x :: st) s) : JJ S G Acc o pc lv st s := fun ho H locs ls hP hS hl => lv_lload C.1 C.2.1 d (lv_at hl q hq) (k ho H locs ls hP hS hl)
theorem jr_lstore_n (C : Cx S G cc own) {n : Fin 4} {i : Nat} {x : Int64} {lv' : List (Nat × Value)} (hn : i + 1 < gL G) (hl' : (i, Value.long x) :: lv.filter (fun q => !(q.1 == i) && (!(q.1 == i + 1) && !(q.1 + 1 == i && q.2.category == 2))) = lv') (hi : (n : Nat) = i) (d : decode cc pc = .ok (.lstore_n n, 1)) (k : JJ S G Acc o (pc + 1) lv' st s) : JJ S G Acc o pc lv (.long x :: st) s := fun ho H locs ls hP hS hl => lv_lstore_n C.1 C.2.1 d hi hl hn hl' (fun ls h => k ho H locs ls hP hS h)
theorem jr_lstore (C : Cx S G cc own) {i : Nat} {x : Int64} {lv' : List (Nat × Value)} (hn : i + 1 < gL G) (hl' : (i, Value.long x) :: lv.filter (fun q => !(q.1 == i) && (!(q.1 == i + 1) && !(q.1 + 1 == i && q.2.category == 2))) = lv') (d : decode cc pc = .ok (.lstore i, 2)) (k : JJ S G Acc o (pc + 2) lv' st s) : JJ S G Acc o pc lv (.long x :: st) s := fun ho H locs ls hP hS hl => lv_lstore C.1 C.2.1 d hl hn hl' (fun ls h => k ho H locs ls hP hS h)
theorem jr_aload_n (C : Cx S G cc own) {n : Fin 4} {i : Nat} {x : Nat} (q : Nat) (hq : lv[q]? = some (i, .ref x)) (hi : (n : Nat) = i) (d : decode cc pc = .ok (.aload_n n, 1)) (k : JJ S G Acc o (pc + 1) lv (.ref x :: st) s) : JJ S G Acc o pc lv st s := fun ho H locs ls hP hS hl => lv_aload_n C.1 C.2.1 d hi (lv_at hl q hq) (k ho H locs ls hP hS hl)
theorem jr_aload (C : Cx S G cc own) {i : Nat} {x : Nat} (q : Nat) (hq : lv[q]? = some (i, .ref x)) (d : decode cc pc = .ok (.aload i, 2)) (k : JJ S G Acc o (pc + 2) lv (.ref x :: st) s) : JJ S G Acc o pc lv st s := fun ho H locs ls hP hS hl => lv_aload C.1 C.2.1 d (lv_at hl q hq) (k ho H locs ls hP hS hl)
theorem jr_astore_n (C : Cx S G cc own) {n : Fin 4} {i : Nat} {x : Nat} {lv' : List (Nat × Value)} (hn : i < gL G) (hl' : (i, Value.ref x) :: lv.filter (fun q => !(q.1 == i) && !(q.1 + 1 == i && q.2.category == 2)) = lv') (hi : (n : Nat) = i) (d : decode cc pc = .ok (.astore_n n, 1)) (k : JJ S G Acc o (pc + 1) lv' st s) : JJ S G Acc o pc lv (.ref x :: st) s := fun ho H locs ls hP hS hl => lv_astore_n C.1 C.2.1 d hi hl hn hl' (fun ls h => k ho H locs ls hP hS h)
theorem jr_astore (C : Cx S G cc own) {i : Nat} {x : Nat} {lv' : List (Nat × Value)} (hn : i < gL G) (hl' : (i, Value.ref x) :: lv.filter (fun q => !(q.1 == i) && !(q.1 + 1 == i && q.2.category == 2)) = lv') (d : decode cc pc = .ok (.astore i, 2)) (k : JJ S G Acc o (pc + 2) lv' st s) : JJ S G Acc o pc lv (.ref x :: st) s := fun ho H locs ls hP hS hl => lv_astore C.1 C.2.1 d hl hn hl' (fun ls h => k ho H locs ls hP hS h)
theorem jr_iinc (C : Cx S G cc own) {i : Nat} {n : Int} {x v : Int32} {lv' : List (Nat × Value)} (q : Nat) (hq : lv[q]? = some (i, .int x)) (hv : x + Int32.ofInt n = v) (hn : i < gL G) (hl' : (i, Value.int v) :: lv.filter (fun q => !(q.1 == i) && !(q.1 + 1 == i && q.2.category == 2)) = lv') (d : decode cc pc = .ok (.iinc i n, 3)) (k : JJ S G Acc o (pc + 3) lv' st s) : JJ S G Acc o pc lv st s := fun ho H locs ls hP hS hl => lv_iinc C.1 C.2.1 d hl hq hv hn hl' (fun ls h => k ho H locs ls hP hS h)
theorem jr_if_eq (C : Cx S G cc own) {x : Int32} {off : Int} {tgt : Nat} (d : decode cc pc = .ok (.ifCond .eq off, 3)) (ht : (pc : Int) + off = (tgt : Int)) (kt : x = 0 → JJ S G Acc o tgt lv st s) (kf : ¬ x = 0 → JJ S G Acc o (pc + 3) lv st s) : JJ S G Acc o pc lv (.int x :: st) s := fun ho H locs ls hP hS hl => lv_if_eq C.1 C.2.1 d ht (fun h => kt h ho H locs ls hP hS hl) (fun h => kf h ho H locs ls hP hS hl)
theorem jr_icmp_eq (C : Cx S G cc own) {x y : Int32} {off : Int} {tgt : Nat} (d : decode cc pc = .ok (.if_icmp .eq off, 3)) (ht : (pc : Int) + off = (tgt : Int)) (kt : x = y → JJ S G Acc o tgt lv st s) (kf : ¬ x = y → JJ S G Acc o (pc + 3) lv st s) : JJ S G Acc o pc lv (.int y :: .int x :: st) s := fun ho H locs ls hP hS hl => lv_icmp_eq C.1 C.2.1 d ht (fun h => kt h ho H locs ls hP hS hl) (fun h => kf h ho H locs ls hP hS hl)
theorem jr_if_ne (C : Cx S G cc own) {x : Int32} {off : Int} {tgt : Nat} (d : decode cc pc = .ok (.ifCond .ne off, 3)) (ht : (pc : Int) + off = (tgt : Int)) (kt : ¬ x = 0 → JJ S G Acc o tgt lv st s) (kf : x = 0 → JJ S G Acc o (pc + 3) lv st s) : JJ S G Acc o pc lv (.int x :: st) s := fun ho H locs ls hP hS hl => lv_if_ne C.1 C.2.1 d ht (fun h => kt h ho H locs ls hP hS hl) (fun h => kf h ho H locs ls hP hS hl)
theorem jr_icmp_ne (C : Cx S G cc own) {x y : Int32} {off : Int} {tgt : Nat} (d : decode cc pc = .ok (.if_icmp .ne off, 3)) (ht : (pc : Int) + off = (tgt : Int)) (kt : ¬ x = y → JJ S G Acc o tgt lv st s) (kf : x = y → JJ S G Acc o (pc + 3) lv st s) : JJ S G Acc o pc lv (.int y :: .int x :: st) s := fun ho H locs ls hP hS hl => lv_icmp_ne C.1 C.2.1 d ht (fun h => kt h ho H locs ls hP hS hl) (fun h => kf h ho H locs ls hP hS hl)
theorem jr_if_lt (C : Cx S G cc own) {x : Int32} {off : Int} {tgt : Nat} (d : decode cc pc = .ok (.ifCond .lt off, 3)) (ht : (pc : Int) + off = (tgt : Int)) (kt : x < 0 → JJ S G Acc o tgt lv st s) (kf : ¬ x < 0 → JJ S G Acc o (pc + 3) lv st s) : JJ S G Acc o pc lv (.int x :: st) s := fun ho H locs ls hP hS hl => lv_if_lt C.1 C.2.1 d ht (fun h => kt h ho H locs ls hP hS hl) (fun h => kf h ho H locs ls hP hS hl)
theorem jr_icmp_lt (C : Cx S G cc own) {x y : Int32} {off : Int} {tgt : Nat} (d : decode cc pc = .ok (.if_icmp .lt off, 3)) (ht : (pc : Int) + off = (tgt : Int)) (kt : x < y → JJ S G Acc o tgt lv st s) (kf : ¬ x < y → JJ S G Acc o (pc + 3) lv st s) : JJ S G Acc o pc lv (.int y :: .int x :: st) s := fun ho H locs ls hP hS hl => lv_icmp_lt C.1 C.2.1 d ht (fun h => kt h ho H locs ls hP hS hl) (fun h => kf h ho H locs ls hP hS hl)
theorem jr_if_ge (C : Cx S G cc own) {x : Int32} {off : Int} {tgt : Nat} (d : decode cc pc = .ok (.ifCond .ge off, 3)) (ht : (pc : Int) + off = (tgt : Int)) (kt : 0 ≤ x → JJ S G Acc o tgt lv st s) (kf : ¬ 0 ≤ x → JJ S G Acc o (pc + 3) lv st s) : JJ S G Acc o pc lv (.int x :: st) s := fun ho H locs ls hP hS hl => lv_if_ge C.1 C.2.1 d ht (fun h => kt h ho H locs ls hP hS hl) (fun h => kf h ho H locs ls hP hS hl)
theorem jr_icmp_ge (C : Cx S G cc own) {x y : Int32} {off : Int} {tgt : Nat} (d : decode cc pc = .ok (.if_icmp .ge off, 3)) (ht : (pc : Int) + off = (tgt : Int)) (kt : y ≤ x → JJ S G Acc o tgt lv st s) (kf : ¬ y ≤ x → JJ S G Acc o (pc + 3) lv st s) : JJ S G Acc o pc lv (.int y :: .int x :: st) s := fun ho H locs ls hP hS hl => lv_icmp_ge C.1 C.2.1 d ht (fun h => kt h ho H locs ls hP hS hl) (fun h => kf h ho H locs ls hP hS hl)
theorem jr_if_gt (C : Cx S G cc own) {x : Int32} {off : Int} {tgt : Nat} (d : decode cc pc = .ok (.ifCond .gt off, 3)) (ht : (pc : Int) + off = (tgt : Int)) (kt : 0 < x → JJ S G Acc o tgt lv st s) (kf : ¬ 0 < x → JJ S G Acc o (pc + 3) lv st s) : JJ S G Acc o pc lv (.int x :: st) s := fun ho H locs ls hP hS hl => lv_if_gt C.1 C.2.1 d ht (fun h => kt h ho H locs ls hP hS hl) (fun h => kf h ho H locs ls hP hS hl)
theorem jr_icmp_gt (C : Cx S G cc own) {x y : Int32} {off : Int} {tgt : Nat} (d : decode cc pc = .ok (.if_icmp .gt off, 3)) (ht : (pc : Int) + off = (tgt : Int)) (kt : y < x → JJ S G Acc o tgt lv st s) (kf : ¬ y < x → JJ S G Acc o (pc + 3) lv st s) : JJ S G Acc o pc lv (.int y :: .int x :: st) s := fun ho H locs ls hP hS hl => lv_icmp_gt C.1 C.2.1 d ht (fun h => kt h ho H locs ls hP hS hl) (fun h => kf h ho H locs ls hP hS hl)
theorem jr_if_le (C : Cx S G cc own) {x : Int32} {off : Int} {tgt : Nat} (d : decode cc pc = .ok (.ifCond .le off, 3)) (ht : (pc : Int) + off = (tgt : Int)) (kt : x ≤ 0 → JJ S G Acc o tgt lv st s) (kf : ¬ x ≤ 0 → JJ S G Acc o (pc + 3) lv st s) : JJ S G Acc o pc lv (.int x :: st) s := fun ho H locs ls hP hS hl => lv_if_le C.1 C.2.1 d ht (fun h => kt h ho H locs ls hP hS hl) (fun h => kf h ho H locs ls hP hS hl)
theorem jr_icmp_le (C : Cx S G cc own) {x y : Int32} {off : Int} {tgt : Nat} (d : decode cc pc = .ok (.if_icmp .le off, 3)) (ht : (pc : Int) + off = (tgt : Int)) (kt : x ≤ y → JJ S G Acc o tgt lv st s) (kf : ¬ x ≤ y → JJ S G Acc o (pc + 3) lv st s) : JJ S G Acc o pc lv (.int y :: .int x :: st) s := fun ho H locs ls hP hS hl => lv_icmp_le C.1 C.2.1 d ht (fun h => kt h ho H locs ls hP hS hl) (fun h => kf h ho H locs ls hP hS hl)
theorem jr_goto (C : Cx S G cc own) {off : Int} {tgt : Nat} (d : decode cc pc = .ok (.goto off, 3)) (ht : (pc : Int) + off = (tgt : Int)) (k : JJ S G Acc o tgt lv st s) : JJ S G Acc o pc lv st s := fun ho H locs ls hP hS hl => lv_goto C.1 C.2.1 d ht (k ho H locs ls hP hS hl)
theorem jr_tabIn (C : Cx S G cc own) {dflt lo hi : Int} {offs : Array Int} {len : Nat} {x v : Int32} {off : Int} {tgt : Nat} (d : decode cc pc = .ok (.tableswitch dflt lo hi offs, len)) (hx : x = v) (h1 : ¬ v.toInt < lo) (h2 : ¬ hi < v.toInt) (ho' : offs[(v.toInt - lo).toNat]? = some off) (ht : (pc : Int) + off = (tgt : Int)) (k : JJ S G Acc o tgt lv st s) : JJ S G Acc o pc lv (.int x :: st) s := fun ho H locs ls hP hS hl => by
  subst hx
  exact lv_tableIn C.1 C.2.1 d h1 h2 ho' ht (k ho H locs ls hP hS hl)
theorem jr_tabOut (C : Cx S G cc own) {dflt lo hi : Int} {offs : Array Int} {len : Nat} {x : Int32} {tgt : Nat} (d : decode cc pc = .ok (.tableswitch dflt lo hi offs, len)) (h : x.toInt < lo ∨ hi < x.toInt) (ht : (pc : Int) + dflt = (tgt : Int)) (k : JJ S G Acc o tgt lv st s) : JJ S G Acc o pc lv (.int x :: st) s := fun ho H locs ls hP hS hl => lv_tableOut C.1 C.2.1 d h ht (k ho H locs ls hP hS hl)
theorem jr_ldc (C : Cx S G cc own) {index : Nat} {v : Int32} (hc : Cond.constant own index v ∈ big) (d : decode cc pc = .ok (.ldc index, 2)) (k : JJ S G Acc o (pc + 2) lv (.int v :: st) s) : JJ S G Acc o pc lv st s := fun ho H locs ls hP hS hl => lv_ldc C.1 C.2.1 C.2.2.2.1 (C.2.2.2.2.1 _ hc) d (k ho H locs ls hP hS hl)
theorem jr_ldcw (C : Cx S G cc own) {index : Nat} {v : Int32} (hc : Cond.constant own index v ∈ big) (d : decode cc pc = .ok (.ldc_w index, 3)) (k : JJ S G Acc o (pc + 3) lv (.int v :: st) s) : JJ S G Acc o pc lv st s := fun ho H locs ls hP hS hl => lv_ldcw C.1 C.2.1 C.2.2.2.1 (C.2.2.2.2.1 _ hc) d (k ho H locs ls hP hS hl)
theorem jr_ldc2 (C : Cx S G cc own) {index : Nat} {v : Int64} (hc : Cond.constantLong own index v ∈ big) (d : decode cc pc = .ok (.ldc2_w index, 3)) (k : JJ S G Acc o (pc + 3) lv (.long v :: st) s) : JJ S G Acc o pc lv st s := fun ho H locs ls hP hS hl => lv_ldc2 C.1 C.2.1 C.2.2.2.1 (C.2.2.2.2.1 _ hc) d (k ho H locs ls hP hS hl)
/-! arrays -/
theorem jr_iald (C : Cx S G cc own) {k n : Nat} {i : Int32} (hk : k < S.1) (ht : S.2.1 k = 100) (hn : S.2.2.1 k = n) (d : decode cc pc = .ok (.iaload, 1)) (kk : JJ S G Acc o (pc + 1) lv (.int (s.1 k i.toNatClampNeg) :: st) s) : JJ S G Acc (gd i n o) pc lv (.int i :: .ref (ad G k) :: st) s := jo_gd (fun hi ho H locs ls hP hS hl => va_iald C.1 C.2.1 C.2.2.2.2.2.1 hP k 0 (by rw [wd_get hk, ce_arr ht (Or.inl rfl) hn]) rfl hi d (kk ho H locs ls hP hS hl))
theorem jr_zald (C : Cx S G cc own) {k n : Nat} {i : Int32} (hk : k < S.1) (ht : S.2.1 k = 102) (hn : S.2.2.1 k = n) (d : decode cc pc = .ok (.baload, 1)) (kk : JJ S G Acc o (pc + 1) lv (.int (s.1 k i.toNatClampNeg) :: st) s) : JJ S G Acc (gd i n o) pc lv (.int i :: .ref (ad G k) :: st) s := jo_gd (fun hi ho H locs ls hP hS hl => va_zald C.1 C.2.1 C.2.2.2.2.2.1 hP k 2 (by rw [wd_get hk, ce_arr ht (Or.inr (Or.inl rfl)) hn]) rfl hi d (kk ho H locs ls hP hS hl))
theorem jr_bald (C : Cx S G cc own) {k n : Nat} {i : Int32} (hk : k < S.1) (ht : S.2.1 k = 103) (hn : S.2.2.1 k = n) (d : decode cc pc = .ok (.baload, 1)) (kk : JJ S G Acc o (pc + 1) lv (.int (s.1 k i.toNatClampNeg) :: st) s) : JJ S G Acc (gd i n o) pc lv (.int i :: .ref (ad G k) :: st) s := jo_gd (fun hi ho H locs ls hP hS hl => va_bald C.1 C.2.1 C.2.2.2.2.2.1 hP k 3 (by rw [wd_get hk, ce_arr ht (Or.inr (Or.inr rfl)) hn]) rfl hi d (kk ho H locs ls hP hS hl))
theorem jr_lald (C : Cx S G cc own) {k n : Nat} {i : Int32} (hk : k < S.1) (ht : S.2.1 k = 101) (hn : S.2.2.1 k = n) (d : decode cc pc = .ok (.laload, 1)) (kk : JJ S G Acc o (pc + 1) lv (.long (s.2.1 k i.toNatClampNeg) :: st) s) : JJ S G Acc (gd i n o) pc lv (.int i :: .ref (ad G k) :: st) s := jo_gd (fun hi ho H locs ls hP hS hl => va_lald C.1 C.2.1 C.2.2.2.2.2.1 hP k 1 (by rw [wd_get hk, ce_arrJ ht hn]) rfl hi d (kk ho H locs ls hP hS hl))
theorem jr_aald (C : Cx S G cc own) {k n r : Nat} {i : Int32} (hk : k < S.1) (ht : S.2.1 k = 104) (hn : S.2.2.1 k = n) (hr : vp_in i n → rv S s k i.toNatClampNeg = some r) (d : decode cc pc = .ok (.aaload, 1)) (kk : vp_in i n → JJ S G Acc o (pc + 1) lv (.ref (ad G r) :: st) s) : JJ S G Acc (gd i n o) pc lv (.int i :: .ref (ad G k) :: st) s := jo_gd (fun hi ho H locs ls hP hS hl => va_aldq C.1 C.2.1 C.2.2.2.2.2.1 hP k 4 (by rw [wd_get hk, ce_arrR ht hn]) rfl hi d (by
  have e : va_rf ((rv S s k i.toNatClampNeg).map (ad G)) = .ref (ad G r) := by rw [hr hi]; rfl
  show W _ _ _ _ _ _ _ _ _ _ _ _ _ _ _ (F0 _ _ _ (va_rf ((rv S s k i.toNatClampNeg).map (ad G)) :: st))
  rw [e]
  exact kk hi ho H locs ls hP hS hl))
theorem jr_alen (C : Cx S G cc own) {k n : Nat} {v : Int32} (hk : k < S.1) (ht : S.2.1 k = 100) (hn : S.2.2.1 k = n) (hv : Int32.ofNat n = v) (d : decode cc pc = .ok (.arraylength, 1)) (kk : JJ S G Acc o (pc + 1) lv (.int v :: st) s) : JJ S G Acc o pc lv (.ref (ad G k) :: st) s := fun ho H locs ls hP hS hl => va_alen C.1 C.2.1 C.2.2.2.2.2.1 hP k 0 (by rw [wd_get hk, ce_arr ht (Or.inl rfl) hn]) (ty := .int) rfl hv d (kk ho H locs ls hP hS hl)
theorem jr_alenR (C : Cx S G cc own) {k n : Nat} {v : Int32} (hk : k < S.1) (ht : S.2.1 k = 104) (hn : S.2.2.1 k = n) (hv : Int32.ofNat n = v) (d : decode cc pc = .ok (.arraylength, 1)) (kk : JJ S G Acc o (pc + 1) lv (.int v :: st) s) : JJ S G Acc o pc lv (.ref (ad G k) :: st) s := fun ho H locs ls hP hS hl => va_alen C.1 C.2.1 C.2.2.2.2.2.1 hP k 4 (by rw [wd_get hk, ce_arrR ht hn]) (ty := .object "ShadeBench$Datum") rfl hv d (kk ho H locs ls hP hS hl)
theorem wd_st {k n t : Nat} {f : Nat → Int32} (hk : k < S.1) (ht : S.2.1 k = t) (h3 : t = 100 ∨ t = 102 ∨ t = 103) (hn : S.2.2.1 k = n) : (wd S (ad G) (gy G) s).set k (ad G k, .inl (gy G t, n, .inl f)) = wd S (ad G) (gy G) (uC s k f) :=
  wd_set hk (by rw [ce_arr ht h3 hn, uC_1]) (fun i hi => ce_uC hi)
theorem jr_iast (C : Cx S G cc own) {k n : Nat} {i x : Int32} (hk : k < S.1) (ht : S.2.1 k = 100) (hn : S.2.2.1 k = n) (d : decode cc pc = .ok (.iastore, 1)) (kk : JJ S G Acc o (pc + 1) lv st (uI s k i.toNatClampNeg x)) : JJ S G Acc (gd i n o) pc lv (.int x :: .int i :: .ref (ad G k) :: st) s := jo_gd (fun hi ho H locs ls hP hS hl => va_iast C.1 C.2.1 C.2.2.2.2.2.1 hP (C.2.2.2.2.2.2.1 s) hS k 0 (by rw [wd_get hk, ce_arr ht (Or.inl rfl) hn]) rfl hi d (fun H1 locs1 hP1 _ hS1 => kk ho H1 locs1 ls (by rw [wd_st hk ht (Or.inl rfl) hn] at hP1; exact hP1) hS1 hl))
theorem jr_zast (C : Cx S G cc own) {k n : Nat} {i x : Int32} (hk : k < S.1) (ht : S.2.1 k = 102) (hn : S.2.2.1 k = n) (d : decode cc pc = .ok (.bastore, 1)) (kk : JJ S G Acc o (pc + 1) lv st (uI s k i.toNatClampNeg (bN x))) : JJ S G Acc (gd i n o) pc lv (.int x :: .int i :: .ref (ad G k) :: st) s := jo_gd (fun hi ho H locs ls hP hS hl => va_zast C.1 C.2.1 C.2.2.2.2.2.1 hP (C.2.2.2.2.2.2.1 s) hS k 2 (by rw [wd_get hk, ce_arr ht (Or.inr (Or.inl rfl)) hn]) rfl hi d (fun H1 locs1 hP1 _ hS1 => kk ho H1 locs1 ls (by rw [wd_st hk ht (Or.inr (Or.inl rfl)) hn] at hP1; exact hP1) hS1 hl))
theorem jr_bast (C : Cx S G cc own) {k n : Nat} {i x : Int32} (hk : k < S.1) (ht : S.2.1 k = 103) (hn : S.2.2.1 k = n) (d : decode cc pc = .ok (.bastore, 1)) (kk : JJ S G Acc o (pc + 1) lv st (uI s k i.toNatClampNeg (vp_nar .byte x))) : JJ S G Acc (gd i n o) pc lv (.int x :: .int i :: .ref (ad G k) :: st) s := jo_gd (fun hi ho H locs ls hP hS hl => va_bast C.1 C.2.1 C.2.2.2.2.2.1 hP (C.2.2.2.2.2.2.1 s) hS k 3 (by rw [wd_get hk, ce_arr ht (Or.inr (Or.inr rfl)) hn]) rfl hi d (fun H1 locs1 hP1 _ hS1 => kk ho H1 locs1 ls (by rw [wd_st hk ht (Or.inr (Or.inr rfl)) hn] at hP1; exact hP1) hS1 hl))
theorem wd_stJ {k n j : Nat} {v : Int64} (hk : k < S.1) (ht : S.2.1 k = 101) (hn : S.2.2.1 k = n) : (wd S (ad G) (gy G) s).set k (ad G k, .inl (gy G 101, n, .inr (.inl (vp_updL (s.2.1 k) j v)))) = wd S (ad G) (gy G) (uJ s k j v) :=
  wd_set hk (by rw [ce_arrJ ht hn, uJ_1]) (fun i hi => ce_uJ hi)
theorem jr_last (C : Cx S G cc own) {k n : Nat} {i : Int32} {x : Int64} (hk : k < S.1) (ht : S.2.1 k = 101) (hn : S.2.2.1 k = n) (d : decode cc pc = .ok (.lastore, 1)) (kk : JJ S G Acc o (pc + 1) lv st (uJ s k i.toNatClampNeg x)) : JJ S G Acc (gd i n o) pc lv (.long x :: .int i :: .ref (ad G k) :: st) s := jo_gd (fun hi ho H locs ls hP hS hl => va_last C.1 C.2.1 C.2.2.2.2.2.1 hP (C.2.2.2.2.2.2.1 s) hS k 1 (by rw [wd_get hk, ce_arrJ ht hn]) rfl hi d (fun H1 locs1 hP1 _ hS1 => kk ho H1 locs1 ls (by rw [wd_stJ hk ht hn] at hP1; exact hP1) hS1 hl))
/-! fields: c the class's number, j the field's; FX: what is known of the class -/
def FX (c : Nat) (R : String) (T : u_T) (N : Nat) (ty : Nat → FieldType) : Prop := c < 100 ∧ vwCl[c]? = some (R, T, N) ∧ nf c = N ∧ (∀ w ∈ u_ws R T N, w ∈ big) ∧ (∀ k, k < N → parseFieldDescriptor (T k).2.2.1 = some (ty k)) ∧ ∀ a, a < N → ∀ b, b < N → a ≠ b → (T a).2.1 ≠ (T b).2.1
variable {c : Nat} {R : String} {T : u_T} {N : Nat} {ty : Nat → FieldType}
theorem jr_get (C : Cx S G cc own) (F : FX c R T N ty) {k index : Nat} {v : Value} (j : Nat) (hk : k < S.1) (ht : S.2.1 k = c) (hj : j < N) (hl : Cond.fieldLink own index (T j).1 (T j).2.1 (T j).2.2.1 ∈ big) (hv : fv S (ad G) s k j = v) (d : decode cc pc = .ok (.getfield index, 3)) (kk : JJ S G Acc o (pc + 3) lv (v :: st) s) : JJ S G Acc o pc lv (.ref (ad G k) :: st) s := fun ho H locs ls hP hS hl' =>
  va_get (own := own) (C := R) (T := T) (N := N) (ci := c) C.1 C.2.1 C.2.2.2.2.1 F.2.2.2.1 C.2.2.2.1 C.2.2.2.2.2.1 hP k (by rw [wd_get hk, ce_obj ht F.1]) F.2.1 j hj (C.2.2.2.2.1 _ hl) (fun _ h => h) (by rw [fl_get (by rw [ht, F.2.2.1]; exact hj), hv]) d (kk ho H locs ls hP hS hl')
theorem jr_getI (C : Cx S G cc own) (F : FX c R T N ty) {k index : Nat} (j : Nat) (hk : k < S.1) (ht : S.2.1 k = c) (hj : j < N) (hf : fT c j = 0) (hl : Cond.fieldLink own index (T j).1 (T j).2.1 (T j).2.2.1 ∈ big) (d : decode cc pc = .ok (.getfield index, 3)) (kk : JJ S G Acc o (pc + 3) lv (.int (s.1 k j) :: st) s) : JJ S G Acc o pc lv (.ref (ad G k) :: st) s :=
  jr_get C F j hk ht hj hl (by unfold fv; rw [ht, hf]; rfl) d kk
theorem jr_getJ (C : Cx S G cc own) (F : FX c R T N ty) {k index : Nat} (j : Nat) (hk : k < S.1) (ht : S.2.1 k = c) (hj : j < N) (hf : fT c j = 1) (hl : Cond.fieldLink own index (T j).1 (T j).2.1 (T j).2.2.1 ∈ big) (d : decode cc pc = .ok (.getfield index, 3)) (kk : JJ S G Acc o (pc + 3) lv (.long (s.2.1 k j) :: st) s) : JJ S G Acc o pc lv (.ref (ad G k) :: st) s :=
  jr_get C F j hk ht hj hl (by unfold fv; rw [ht, hf]; rfl) d kk
theorem jr_getR (C : Cx S G cc own) (F : FX c R T N ty) {k index r : Nat} (j : Nat) (hk : k < S.1) (ht : S.2.1 k = c) (hj : j < N) (hf : fT c j = 2) (hr : rv S s k j = some r) (hl : Cond.fieldLink own index (T j).1 (T j).2.1 (T j).2.2.1 ∈ big) (d : decode cc pc = .ok (.getfield index, 3)) (kk : JJ S G Acc o (pc + 3) lv (.ref (ad G r) :: st) s) : JJ S G Acc o pc lv (.ref (ad G k) :: st) s :=
  jr_get C F j hk ht hj hl (by unfold fv; rw [ht, hf, hr]; rfl) d kk
theorem jr_put (C : Cx S G cc own) (F : FX c R T N ty) {k index : Nat} {v : Value} {s' : St} (j : Nat) (hk : k < S.1) (ht : S.2.1 k = c) (hj : j < N) (hfin : (T j).2.2.2 = false) (hnar : narrow (ty j) v = v) (hfit : fits (ty j) v = true) (h1 : fv S (ad G) s' k j = v) (h2 : ∀ i, i ≠ j → fv S (ad G) s' k i = fv S (ad G) s k i) (h3 : ∀ i, i ≠ k → ce S (ad G) (gy G) s' i = ce S (ad G) (gy G) s i) (hl : Cond.fieldLink own index (T j).1 (T j).2.1 (T j).2.2.1 ∈ big) (d : decode cc pc = .ok (.putfield index, 3)) (kk : JJ S G Acc o (pc + 3) lv st s') : JJ S G Acc o pc lv (v :: .ref (ad G k) :: st) s := fun ho H locs ls hP hS hl' => by
  have hjn : j < nf (S.2.1 k) := by rw [ht, F.2.2.1]; exact hj
  refine va_put (own := own) (C := R) (T := T) (N := N) (ci := c) C.1 C.2.1 C.2.2.2.2.1 F.2.2.2.1 ty F.2.2.2.2.1 F.2.2.2.2.2 C.2.2.2.1 C.2.2.2.2.2.1 hP (C.2.2.2.2.2.2.1 s) hS k (fs := fl S (ad G) s k) (by rw [wd_get hk, ce_obj ht F.1]) F.2.1 j hj (C.2.2.2.2.1 _ hl) (fun _ h => h) hfin (F.2.2.2.2.1 j hj) hnar hfit (by rw [fl_len]; exact hjn) d (fun H1 locs1 hP1 _ hS1 => ?_)
  rw [fl_set hjn h1 h2, wd_set (s' := s') hk (ce_obj ht F.1) h3] at hP1
  exact kk ho H1 locs1 ls hP1 hS1 hl'
theorem fv_uI1 {k j : Nat} {v : Int32} (hf : fT (S.2.1 k) j = 0) : fv S (ad G) (uI s k j v) k j = .int v := by
  unfold fv; rw [if_pos hf]; simp [uI, uC, va_up, upd]
theorem fv_uI2 {k j i : Nat} {v : Int32} (h : i ≠ j) : fv S (ad G) (uI s k j v) k i = fv S (ad G) s k i := by
  have e : (uI s k j v).1 k i = s.1 k i := by simp [uI, uC, va_up, upd, h]
  unfold fv; rw [e]; rfl
theorem fv_uJ1 {k j : Nat} {v : Int64} (hf : fT (S.2.1 k) j = 1) : fv S (ad G) (uJ s k j v) k j = .long v := by
  unfold fv; rw [hf]; simp [uJ, va_up, vp_updL]
theorem fv_uJ2 {k j i : Nat} {v : Int64} (h : i ≠ j) : fv S (ad G) (uJ s k j v) k i = fv S (ad G) s k i := by
  have e : (uJ s k j v).2.1 k i = s.2.1 k i := by simp [uJ, va_up, vp_updL, h]
  unfold fv; rw [e]; rfl
theorem jr_putI (C : Cx S G cc own) (F : FX c R T N ty) {k index : Nat} {v : Int32} (j : Nat) (hk : k < S.1) (ht : S.2.1 k = c) (hj : j < N) (hf : fT c j = 0) (hfin : (T j).2.2.2 = false) (hty : ty j = .int) (hl : Cond.fieldLink own index (T j).1 (T j).2.1 (T j).2.2.1 ∈ big) (d : decode cc pc = .ok (.putfield index, 3)) (kk : JJ S G Acc o (pc + 3) lv st (uI s k j v)) : JJ S G Acc o pc lv (.int v :: .ref (ad G k) :: st) s :=
  jr_put C F j hk ht hj hfin (by rw [hty]; rfl) (by rw [hty]; rfl) (fv_uI1 (by rw [ht]; exact hf)) (fun i hi => fv_uI2 hi) (fun i hi => ce_uC hi) hl d kk
theorem jr_putZ (C : Cx S G cc own) (F : FX c R T N ty) {k index : Nat} {v : Int32} (j : Nat) (hk : k < S.1) (ht : S.2.1 k = c) (hj : j < N) (hf : fT c j = 0) (hfin : (T j).2.2.2 = false) (hty : ty j = .boolean) (hz : v = 0 ∨ v = 1) (hl : Cond.fieldLink own index (T j).1 (T j).2.1 (T j).2.2.1 ∈ big) (d : decode cc pc = .ok (.putfield index, 3)) (kk : JJ S G Acc o (pc + 3) lv st (uI s k j v)) : JJ S G Acc o pc lv (.int v :: .ref (ad G k) :: st) s :=
  jr_put C F j hk ht hj hfin (by rw [hty]; rcases hz with rfl | rfl <;> rfl) (by rw [hty]; rcases hz with rfl | rfl <;> rfl) (fv_uI1 (by rw [ht]; exact hf)) (fun i hi => fv_uI2 hi) (fun i hi => ce_uC hi) hl d kk
theorem jr_putJ (C : Cx S G cc own) (F : FX c R T N ty) {k index : Nat} {v : Int64} (j : Nat) (hk : k < S.1) (ht : S.2.1 k = c) (hj : j < N) (hf : fT c j = 1) (hfin : (T j).2.2.2 = false) (hty : ty j = .long) (hl : Cond.fieldLink own index (T j).1 (T j).2.1 (T j).2.2.1 ∈ big) (d : decode cc pc = .ok (.putfield index, 3)) (kk : JJ S G Acc o (pc + 3) lv st (uJ s k j v)) : JJ S G Acc o pc lv (.long v :: .ref (ad G k) :: st) s :=
  jr_put C F j hk ht hj hfin (by rw [hty]; rfl) (by rw [hty]; rfl) (fv_uJ1 (by rw [ht]; exact hf)) (fun i hi => fv_uJ2 hi) (fun i hi => ce_uJ hi) hl d kk
theorem ce_uR {q r : Nat} {i : Nat} (hu : ∀ j, S.2.2.2.1 i j ≠ some (.inr q)) : ce S (ad G) (gy G) (uR s q r) i = ce S (ad G) (gy G) s i := by
  have e : ∀ j, rv S (uR s q r) i j = rv S s i j := fun j => by
    unfold rv
    cases h : S.2.2.2.1 i j with
    | none => rfl
    | some v =>
      cases v with
      | inl c => rfl
      | inr q' =>
        have hq : q' ≠ q := fun z => hu j (by rw [h, z])
        simp [uR, va_up, hq]
  have e2 : fl S (ad G) (uR s q r) i = fl S (ad G) s i := by unfold fl; exact List.map_congr_left (fun j _ => by unfold fv; rw [e j]; rfl)
  unfold ce; rw [e2]
  simp only [e]
  rfl
theorem jr_putR (C : Cx S G cc own) (F : FX c R T N ty) {k index q r : Nat} {cn : String} (j : Nat) (hk : k < S.1) (ht : S.2.1 k = c) (hj : j < N) (hf : fT c j = 2) (hfin : (T j).2.2.2 = false) (hty : ty j = .object cn ∨ ty j = .array .int) (hr : r ≠ 999) (hq : S.2.2.2.1 k j = some (.inr q)) (hu : ∀ i j', S.2.2.2.1 i j' = some (.inr q) → i = k ∧ j' = j) (hl : Cond.fieldLink own index (T j).1 (T j).2.1 (T j).2.2.1 ∈ big) (d : decode cc pc = .ok (.putfield index, 3)) (kk : JJ S G Acc o (pc + 3) lv st (uR s q r)) : JJ S G Acc o pc lv (.ref (ad G r) :: .ref (ad G k) :: st) s := by
  refine jr_put C F j hk ht hj hfin (by rcases hty with h | h <;> rw [h] <;> rfl) (by rcases hty with h | h <;> rw [h] <;> rfl) ?_ (fun i hi => ?_) (fun i hi => ce_uR (fun j' h => hi (hu i j' h).1)) hl d kk
  · unfold fv; rw [ht, hf]; unfold rv; rw [hq]; simp [uR, va_up, hr, va_rf]
  · have e : rv S (uR s q r) k i = rv S s k i := by
      unfold rv
      cases h : S.2.2.2.1 k i with
      | none => rfl
      | some v =>
        cases v with
        | inl c => rfl
        | inr q' =>
          have hq' : q' ≠ q := fun z => hi (hu k i (by rw [h, z])).2
          simp [uR, va_up, hq']
    unfold fv; rw [e]; rfl
end ROWS
/-! ===== loops ===== -/
def whN {α β : Type} (f : α → Option (α ⊕ β)) : Nat → α → Option β
  | 0, _ => none
  | n + 1, a => match f a with
    | none => none
    | some (.inl a') => whN f n a'
    | some (.inr b) => some b
noncomputable def wh {α β : Type} (f : α → Option (α ⊕ β)) (a : α) : Option β := by
  classical exact if h : ∃ n b, whN f n a = some b then some (Classical.choose (Classical.choose_spec h)) else none
theorem whN_mono {α β : Type} {f : α → Option (α ⊕ β)} {b : β} : ∀ (n m : Nat) (a : α), n ≤ m → whN f n a = some b → whN f m a = some b
  | 0, _, _, _, h => by cases h
  | n + 1, 0, _, hm, _ => by omega
  | n + 1, m + 1, a, hm, h => by
    unfold whN at h ⊢
    cases hf : f a with
    | none => rw [hf] at h; cases h
    | some q =>
      rw [hf] at h
      cases q with
      | inl a' => exact whN_mono n m a' (by omega) h
      | inr c => exact h
theorem wh_of {α β : Type} {f : α → Option (α ⊕ β)} {a : α} {b : β} {n : Nat} (h : whN f n a = some b) : wh f a = some b := by
  have hex : ∃ n b, whN f n a = some b := ⟨n, b, h⟩
  unfold wh
  rw [dif_pos hex]
  have h2 := Classical.choose_spec (Classical.choose_spec hex)
  have h3 := whN_mono _ (max n (Classical.choose hex)) a (Nat.le_max_left ..) h
  have h4 := whN_mono _ (max n (Classical.choose hex)) a (Nat.le_max_right ..) h2
  exact h4.symm.trans h3
theorem wh_ex {α β : Type} {f : α → Option (α ⊕ β)} {a : α} {b : β} (h : wh f a = some b) : ∃ n, whN f n a = some b := by
  unfold wh at h
  by_cases hex : ∃ n b, whN f n a = some b
  · rw [dif_pos hex] at h
    have h2 := Classical.choose_spec (Classical.choose_spec hex)
    exact ⟨_, h2.trans h⟩
  · rw [dif_neg hex] at h; cases h
theorem wh_inl {α β : Type} {f : α → Option (α ⊕ β)} {a a' : α} (h : f a = some (.inl a')) : wh f a = wh f a' := by
  cases hw : wh f a' with
  | some b =>
    obtain ⟨n, hn⟩ := wh_ex hw
    exact wh_of (n := n + 1) (by unfold whN; rw [h]; exact hn)
  | none =>
    cases hv : wh f a with
    | none => rfl
    | some b =>
      obtain ⟨n, hn⟩ := wh_ex hv
      cases n with
      | zero => cases hn
      | succ n =>
        unfold whN at hn
        rw [h] at hn
        rw [wh_of hn] at hw; cases hw
theorem wh_inr {α β : Type} {f : α → Option (α ⊕ β)} {a : α} {b : β} (h : f a = some (.inr b)) : wh f a = some b := wh_of (n := 1) (by unfold whN; rw [h])
/-- a loop's head: pl is where its variables stand -/
theorem jr_loop {S : Sh} {G : GG} {α β : Type} {Acc : β → Prop} {pc : Nat} {f : α → Option (α ⊕ β)} (pl : α → List (Nat × Value)) (ps : α → St)
    (body : ∀ a, JJ S G (Sum.elim (fun a' => KK S G pc (pl a') [] (ps a')) Acc) (f a) pc (pl a) [] (ps a)) (a : α) : JJ S G Acc (wh f a) pc (pl a) [] (ps a) := by
  rintro ⟨v, hv, hA⟩
  obtain ⟨n, hn⟩ := wh_ex hv
  induction n generalizing a with
  | zero => cases hn
  | succ n ih =>
    unfold whN at hn
    cases hf : f a with
    | none => rw [hf] at hn; cases hn
    | some q =>
      rw [hf] at hn
      cases q with
      | inl a' => exact body a ⟨.inl a', hf, ih a' (by rw [← wh_inl hf]; exact hv) hn⟩
      | inr b =>
        cases hn
        exact body a ⟨.inr v, hf, hA⟩
theorem jr_loopB {S : Sh} {G : GG} {α β : Type} {Acc : β → Prop} {pc pcx : Nat} {f : α → Option (α ⊕ α)} {K : α → Option β} (pl : α → List (Nat × Value)) (ps : α → St) (a : α)
    (body : ∀ a, JJ S G (Sum.elim (fun a' => KK S G pc (pl a') [] (ps a')) (fun b => KK S G pcx (pl b) [] (ps b))) (f a) pc (pl a) [] (ps a)) (rest : ∀ b, JJ S G Acc (K b) pcx (pl b) [] (ps b)) : JJ S G Acc ((wh f a).bind K) pc (pl a) [] (ps a) := by
  rintro ⟨v, hv, hA⟩
  cases hw : wh f a with
  | none => rw [hw] at hv; cases hv
  | some b =>
    rw [hw] at hv
    exact jr_loop (Acc := fun b => KK S G pcx (pl b) [] (ps b)) pl ps body a ⟨b, hw, rest b ⟨v, hv, hA⟩⟩
theorem jr_loopE {S : Sh} {G : GG} {α β : Type} {Acc : β → Prop} {pc pcx : Nat} {f : α → Option (α ⊕ (α ⊕ β))} {K : α → Option β} (pl : α → List (Nat × Value)) (ps : α → St) (a : α)
    (body : ∀ a, JJ S G (Sum.elim (fun a' => KK S G pc (pl a') [] (ps a')) (Sum.elim (fun b => KK S G pcx (pl b) [] (ps b)) Acc)) (f a) pc (pl a) [] (ps a)) (rest : ∀ b, JJ S G Acc (K b) pcx (pl b) [] (ps b)) : JJ S G Acc ((wh f a).bind (Sum.elim K some)) pc (pl a) [] (ps a) := by
  rintro ⟨v, hv, hA⟩
  cases hw : wh f a with
  | none => rw [hw] at hv; cases hv
  | some b =>
    rw [hw] at hv
    refine jr_loop (Acc := Sum.elim (fun b => KK S G pcx (pl b) [] (ps b)) Acc) pl ps body a ⟨b, hw, ?_⟩
    cases b with
    | inl e => exact rest e ⟨v, hv, hA⟩
    | inr t => cases hv; exact hA

