/-! ===== the rules ===== -/
theorem bv_sx (y : BitVec 32) (k : Nat) (hk : k < 32) : (y <<< k).sshiftRight k = (y.setWidth (32 - k)).signExtend 32 := by
  ext i hi
  rw [BitVec.getElem_sshiftRight, BitVec.getElem_signExtend]
  by_cases h : i < 32 - k
  · rw [dif_pos (by omega), dif_pos h, BitVec.getElem_shiftLeft, BitVec.getElem_setWidth]
    have h2 : ¬ (k + i < k) := by omega
    simp only [h2, decide_false, Bool.not_false, Bool.true_and]
    rw [← BitVec.getLsbD_eq_getElem, show k + i - k = i by omega]
  · rw [dif_neg (by omega), dif_neg h, BitVec.msb_eq_getLsbD_last, BitVec.msb_eq_getLsbD_last, BitVec.getLsbD_shiftLeft, BitVec.getLsbD_setWidth]
    have h2 : ¬ (32 - 1 < k) := by omega
    have h3 : 32 - k - 1 < 32 - k := by omega
    simp only [h2, h3, decide_true, decide_false, Bool.not_false, Bool.true_and]
    rw [show 32 - 1 - k = 32 - k - 1 by omega]
    simp
theorem sx8 (x : Int32) : (x <<< (24 &&& 31)) >>> (24 &&& 31) = x.toInt8.toInt32 := by
  apply Int32.toBitVec_inj.mp
  have e : ((24 : Int32) &&& 31) = 24 := by decide
  have e2 : (24 : Int32).toBitVec.smod 32 = 24#32 := by decide
  rw [e, Int32.toBitVec_shiftRight, Int32.toBitVec_shiftLeft, e2, Int8.toBitVec_toInt32, Int32.toBitVec_toInt8]
  generalize x.toBitVec = y
  rw [BitVec.signExtend_eq_setWidth_of_le y (by decide : 8 ≤ 32)]
  exact bv_sx y 24 (by decide)
theorem sx16 (x : Int32) : (x <<< (16 &&& 31)) >>> (16 &&& 31) = x.toInt16.toInt32 := by
  apply Int32.toBitVec_inj.mp
  have e : ((16 : Int32) &&& 31) = 16 := by decide
  have e2 : (16 : Int32).toBitVec.smod 32 = 16#32 := by decide
  rw [e, Int32.toBitVec_shiftRight, Int32.toBitVec_shiftLeft, e2, Int16.toBitVec_toInt32, Int32.toBitVec_toInt16]
  generalize x.toBitVec = y
  ext i hi
  simp [BitVec.getElem_signExtend, BitVec.getElem_sshiftRight, BitVec.msb_eq_getLsbD_last, BitVec.getLsbD_signExtend]
  by_cases h : i < 16
  · have h1 : 16 + i < 32 := by omega
    have h2 : ¬ (16 + i < 16) := by omega
    simp [h, h1, h2, hi]
  · have h1 : ¬ (16 + i < 32) := by omega
    simp [h, h1]
theorem div_m1 (a : Int32) : a / -1 = -a := by
  have e : (-1 : Int32).toInt = -1 := by decide
  apply Int32.toInt_inj.mp
  rw [Int32.toInt_div, e, Int32.toInt_neg, Int.tdiv_neg, Int.tdiv_one]
theorem mul_m1 (a : Int32) : a - -a * -1 = 0 := by
  have e : -a * -1 = a := by rw [Int32.mul_neg, Int32.mul_one, Int32.neg_neg]
  rw [e, Int32.sub_self]
theorem ru_eq {k0 k1 : Nat} {c m : St} {a p b q f : Int32} (h0 : c.1 k0 0 = a) (h1 : c.1 k0 1 = p) (h2 : c.1 k1 0 = b) (h3 : c.1 k1 1 = q) (hm : m.1 0 29 = f) (hf : f = 0 ∨ f = 1) : ∃ s, f_Ru_shadeOfEqual k0 k1 f c = some s ∧ f_Mo_equalShade a p b q m = some s := by
  unfold f_Ru_shadeOfEqual f_Mo_equalShade
  simp only [h0, h1, h2, h3, hm, lt]
  by_cases g : p ||| q = 0
  · simp only [if_pos g]; exact ⟨_, rfl, rfl⟩
  · simp only [if_neg g]
    rcases hf with rfl | rfl
    · exact ⟨1, if_pos rfl, if_neg (by decide)⟩
    · rw [if_neg (show ¬ (1 : Int32) = 0 by decide), if_pos rfl]
      by_cases g2 : (a ^^^ b) &&& ((p ||| q) ^^^ -1) = 0
      · simp only [if_pos g2]; exact ⟨_, rfl, rfl⟩
      · simp only [if_neg g2]; exact ⟨_, rfl, rfl⟩
theorem below_eq (a b : Int32) : f_Ru_isBelow a b = f_Mo_below a b := by
  unfold f_Ru_isBelow f_Mo_below; rfl
theorem mo_less1 {m : St} {a p b q t : Int32} (ht : -2147483648 = t) : f_Mo_lessShade a p b q 1 m = if p ||| q = 0 then some 0 else if m.1 0 29 = 0 then some 1 else f_Mo_lessShade_J48 p q (a ^^^ t) (b ^^^ t) m := by
  unfold f_Mo_lessShade f_Mo_lessShade_J32
  rw [if_neg (show ¬ (1 : Int32) = 0 by decide), if_neg (show ¬ (1 : Int32) = 0 by decide), ht]
theorem mo_less0 {m : St} {a p b q : Int32} : f_Mo_lessShade a p b q 0 m = if p ||| q = 0 then some 0 else if m.1 0 29 = 0 then some 1 else f_Mo_lessShade_J48 p q (a ^^^ 0) (b ^^^ 0) m := by
  unfold f_Mo_lessShade f_Mo_lessShade_J32
  rw [if_pos rfl, if_pos rfl, Int32.xor_zero, Int32.xor_zero]
/-- the trees of the two -/
def trA (g x y f : Int32) : Option Int32 := if g = 0 then some 0 else if x = 0 then (if f = 0 then some 1 else some 0) else if f = 0 then some 1 else if y = 0 then some 1 else some 0
def trB (g x y f : Int32) : Option Int32 := if g = 0 then some 0 else if f = 0 then some 1 else if x = 0 then some 0 else if y = 0 then some 1 else some 0
theorem tr_eq (g x y f : Int32) : trA g x y f = trB g x y f := by
  unfold trA trB
  by_cases h1 : g = 0
  · rw [if_pos h1, if_pos h1]
  · rw [if_neg h1, if_neg h1]
    by_cases h2 : x = 0 <;> by_cases h3 : f = 0 <;> simp only [h2, h3, if_true, if_false]
theorem tr_some (g x y f : Int32) : ∃ s, trB g x y f = some s := by
  unfold trB
  by_cases h1 : g = 0
  · exact ⟨_, if_pos h1⟩
  · rw [if_neg h1]
    by_cases h3 : f = 0
    · exact ⟨_, if_pos h3⟩
    · rw [if_neg h3]
      by_cases h2 : x = 0
      · exact ⟨_, if_pos h2⟩
      · rw [if_neg h2]
        by_cases h4 : y = 0
        · exact ⟨_, if_pos h4⟩
        · exact ⟨_, if_neg h4⟩
theorem lt_eq {α β : Type} (e : α) (f : α → Option β) : lt e f = f e := rfl
theorem sb_J1 {k0 k1 : Nat} {c : St} {f v4 v5 : Int32} : f_Ru_shadeOfBelow_J57 k0 k1 f v4 v5 1 c = if f = 0 then some 1 else some 0 := by
  unfold f_Ru_shadeOfBelow_J57
  rw [lt_eq]
  by_cases h : f = 0
  · rw [if_pos h, if_pos h]
  · rw [if_neg h, if_neg h]; exact if_neg (by decide)
theorem sb_J0 {k0 k1 : Nat} {c : St} {f v4 v5 : Int32} : f_Ru_shadeOfBelow_J57 k0 k1 f v4 v5 0 c = if f = 0 then some 1 else if f_Ru_isBelow (v4 ||| c.1 k0 1) (v5 &&& (c.1 k1 1 ^^^ -1)) = 0 then some 1 else some 0 := by
  unfold f_Ru_shadeOfBelow_J57
  rw [lt_eq]
  by_cases h : f = 0
  · rw [if_pos h, if_pos h]
  · rw [if_neg h, if_neg h]; exact if_pos rfl
theorem ru_sb {k0 k1 : Nat} {c : St} {f t : Int32} : f_Ru_shadeOfBelow k0 k1 t f c = trA (c.1 k0 1 ||| c.1 k1 1) (f_Ru_isBelow ((c.1 k0 0 ^^^ t) &&& (c.1 k0 1 ^^^ -1)) (c.1 k1 0 ^^^ t ||| c.1 k1 1)) (f_Ru_isBelow (c.1 k0 0 ^^^ t ||| c.1 k0 1) ((c.1 k1 0 ^^^ t) &&& (c.1 k1 1 ^^^ -1))) f := by
  unfold f_Ru_shadeOfBelow trA
  by_cases h : c.1 k0 1 ||| c.1 k1 1 = 0
  · rw [if_pos h, if_pos h]
  · rw [if_neg h, if_neg h, lt_eq, lt_eq]
    by_cases h2 : f_Ru_isBelow ((c.1 k0 0 ^^^ t) &&& (c.1 k0 1 ^^^ -1)) (c.1 k1 0 ^^^ t ||| c.1 k1 1) = 0
    · rw [if_pos h2, if_pos h2, sb_J1]
    · rw [if_neg h2, if_neg h2, sb_J0]
theorem ru_lt0 {k0 k1 : Nat} {c m : St} {a p b q f t : Int32} (h0 : c.1 k0 0 = a) (h1 : c.1 k0 1 = p) (h2 : c.1 k1 0 = b) (h3 : c.1 k1 1 = q) : ∃ s, f_Ru_shadeOfBelow k0 k1 t f c = some s ∧ (if p ||| q = 0 then some 0 else if f = 0 then some 1 else f_Mo_lessShade_J48 p q (a ^^^ t) (b ^^^ t) m) = some s := by
  obtain ⟨s, hs⟩ := tr_some (p ||| q) (f_Mo_below ((a ^^^ t) &&& (p ^^^ -1)) (b ^^^ t ||| q)) (f_Mo_below (a ^^^ t ||| p) ((b ^^^ t) &&& (q ^^^ -1))) f
  refine ⟨s, ?_, ?_⟩
  · rw [ru_sb, h0, h1, h2, h3, below_eq, below_eq, tr_eq]; exact hs
  · rw [← hs]
    unfold f_Mo_lessShade_J48 trB
    rfl
theorem ru_lt {k0 k1 : Nat} {c m : St} {a p b q f t sg : Int32} (h0 : c.1 k0 0 = a) (h1 : c.1 k0 1 = p) (h2 : c.1 k1 0 = b) (h3 : c.1 k1 1 = q) (hm : m.1 0 29 = f) (hf : f = 0 ∨ f = 1) (ht : (t = -2147483648 ∧ sg = 1) ∨ (t = 0 ∧ sg = 0)) : ∃ s, f_Ru_shadeOfBelow k0 k1 t f c = some s ∧ f_Mo_lessShade a p b q sg m = some s := by
  obtain ⟨s, e1, e2⟩ := ru_lt0 (m := m) (t := t) (f := f) h0 h1 h2 h3
  refine ⟨s, e1, ?_⟩
  rcases ht with ⟨h4, h5⟩ | ⟨h4, h5⟩
  · rw [h5, mo_less1 h4.symm, hm]; exact e2
  · rw [h5, mo_less0, hm]; rw [h4] at e2; exact e2
theorem ru_shade {k0 k1 : Nat} {c m : St} {a p b q f : Int32} (h0 : c.1 k0 0 = a) (h1 : c.1 k0 1 = p) (h2 : c.1 k1 0 = b) (h3 : c.1 k1 1 = q) (hm : m.1 0 29 = f) (hf : f = 0 ∨ f = 1) {o : Nat} (ho : 4 ≤ o) (ho2 : o ≤ 18) :
    ∃ s, f_Ru_shade k0 k1 (nI o) f c = some s ∧ f_Mo_shadeOf (nI o) a p b q m = some s := by
  subst h0 h1 h2 h3 hm
  have hc : o = 4 ∨ o = 5 ∨ o = 6 ∨ o = 7 ∨ o = 8 ∨ o = 9 ∨ o = 10 ∨ o = 11 ∨ o = 12 ∨ o = 13 ∨ o = 14 ∨ o = 15 ∨ o = 16 ∨ o = 17 ∨ o = 18 := by omega
  rcases hc with rfl | rfl | rfl | rfl | rfl | rfl | rfl | rfl | rfl | rfl | rfl | rfl | rfl | rfl | rfl
  · show ∃ s, f_Ru_shade k0 k1 4 _ c = some s ∧ f_Mo_shadeOf 4 _ _ _ _ m = some s
    rcases hf with e | e <;> simp [f_Ru_shade, f_Mo_shadeOf, e, lt, f_Ru_least, f_Ru_most, f_Ru_left, f_Mo_left, Int32.or_assoc]
  · show ∃ s, f_Ru_shade k0 k1 5 _ c = some s ∧ f_Mo_shadeOf 5 _ _ _ _ m = some s
    rcases hf with e | e <;> simp [f_Ru_shade, f_Mo_shadeOf, e, lt, f_Ru_least, f_Ru_most, f_Ru_left, f_Mo_left, Int32.or_assoc]
  · show ∃ s, f_Ru_shade k0 k1 6 _ c = some s ∧ f_Mo_shadeOf 6 _ _ _ _ m = some s
    rcases hf with e | e
    · simp [f_Ru_shade, f_Mo_shadeOf, e, lt, f_Ru_shade_J180, f_Mo_shadeOf_J194, f_Ru_left, f_Mo_left]
    · by_cases g1 : c.1 k0 1 = 0 <;> by_cases g2 : c.1 k0 0 = 0 <;> by_cases g3 : c.1 k1 1 = 0 <;> by_cases g4 : c.1 k1 0 = 0 <;>
        simp [f_Ru_shade, f_Mo_shadeOf, e, lt, f_Ru_isSetZero, f_Mo_shadeOf_J180, f_Ru_shade_J180, f_Mo_shadeOf_J194, f_Ru_left, f_Mo_left, g1, g2, g3, g4]
  · show ∃ s, f_Ru_shade k0 k1 7 _ c = some s ∧ f_Mo_shadeOf 7 _ _ _ _ m = some s
    simp [f_Ru_shade, f_Mo_shadeOf, lt, f_Ru_shade_J186, f_Mo_shadeOf_J202, f_Ru_any, f_Mo_any]
  · show ∃ s, f_Ru_shade k0 k1 8 _ c = some s ∧ f_Mo_shadeOf 8 _ _ _ _ m = some s
    simp [f_Ru_shade, f_Mo_shadeOf, lt, f_Ru_shade_J186, f_Mo_shadeOf_J202, f_Ru_any, f_Mo_any]
  · show ∃ s, f_Ru_shade k0 k1 9 _ c = some s ∧ f_Mo_shadeOf 9 _ _ _ _ m = some s
    simp [f_Ru_shade, f_Mo_shadeOf, lt]
  · show ∃ s, f_Ru_shade k0 k1 10 _ c = some s ∧ f_Mo_shadeOf 10 _ _ _ _ m = some s
    simp [f_Ru_shade, f_Mo_shadeOf, lt]
  · show ∃ s, f_Ru_shade k0 k1 11 _ c = some s ∧ f_Mo_shadeOf 11 _ _ _ _ m = some s
    simp [f_Ru_shade, f_Mo_shadeOf, lt]
  · show ∃ s, f_Ru_shade k0 k1 12 _ c = some s ∧ f_Mo_shadeOf 12 _ _ _ _ m = some s
    by_cases g : c.1 k1 1 &&& 31 = 0 <;> simp [f_Ru_shade, f_Mo_shadeOf, lt, f_Ru_shade_J245, f_Mo_shadeOf_J249, f_Ru_moved, f_Mo_shifted, f_Ru_any, g]
  · show ∃ s, f_Ru_shade k0 k1 13 _ c = some s ∧ f_Mo_shadeOf 13 _ _ _ _ m = some s
    by_cases g : c.1 k1 1 &&& 31 = 0 <;> simp [f_Ru_shade, f_Mo_shadeOf, lt, f_Ru_shade_J245, f_Mo_shadeOf_J249, f_Ru_moved, f_Mo_shifted, f_Ru_any, g]
  · show ∃ s, f_Ru_shade k0 k1 14 _ c = some s ∧ f_Mo_shadeOf 14 _ _ _ _ m = some s
    by_cases g : c.1 k1 1 &&& 31 = 0 <;> simp [f_Ru_shade, f_Mo_shadeOf, lt, f_Ru_shade_J245, f_Mo_shadeOf_J249, f_Ru_moved, f_Mo_shifted, f_Ru_any, g]
  · show ∃ s, f_Ru_shade k0 k1 15 _ c = some s ∧ f_Mo_shadeOf 15 _ _ _ _ m = some s
    obtain ⟨s, e1, e2⟩ := ru_eq (k0 := k0) (k1 := k1) (c := c) (m := m) rfl rfl rfl rfl rfl hf
    exact ⟨s, by simp [f_Ru_shade, lt, f_Ru_shade_J275, e1], by simp [f_Mo_shadeOf, lt, f_Mo_shadeOf_J272, e2]⟩
  · show ∃ s, f_Ru_shade k0 k1 16 _ c = some s ∧ f_Mo_shadeOf 16 _ _ _ _ m = some s
    obtain ⟨s, e1, e2⟩ := ru_eq (k0 := k0) (k1 := k1) (c := c) (m := m) rfl rfl rfl rfl rfl hf
    exact ⟨s, by simp [f_Ru_shade, lt, f_Ru_shade_J275, e1], by simp [f_Mo_shadeOf, lt, f_Mo_shadeOf_J272, e2]⟩
  · show ∃ s, f_Ru_shade k0 k1 17 _ c = some s ∧ f_Mo_shadeOf 17 _ _ _ _ m = some s
    obtain ⟨s, e1, e2⟩ := ru_lt (k0 := k0) (k1 := k1) (c := c) (m := m) rfl rfl rfl rfl rfl hf (.inl ⟨rfl, rfl⟩)
    exact ⟨s, by simp [f_Ru_shade, lt, e1], by simp [f_Mo_shadeOf, lt, f_Mo_shadeOf_J301, e2]⟩
  · show ∃ s, f_Ru_shade k0 k1 18 _ c = some s ∧ f_Mo_shadeOf 18 _ _ _ _ m = some s
    obtain ⟨s, e1, e2⟩ := ru_lt (k0 := k0) (k1 := k1) (c := c) (m := m) rfl rfl rfl rfl rfl hf (.inr ⟨rfl, rfl⟩)
    exact ⟨s, by simp [f_Ru_shade, lt, e1], by simp [f_Mo_shadeOf, lt, f_Mo_shadeOf_J301, e2]⟩
theorem ru_value {m : St} {a b : Int32} {o : Nat} (ho : 4 ≤ o) (ho2 : o ≤ 18) (hb : o = 7 ∨ o = 8 → b ≠ 0) : f_Mo_made (nI o) a b m = some (f_Ru_value (nI o) a b) := by
  have hc : o = 4 ∨ o = 5 ∨ o = 6 ∨ o = 7 ∨ o = 8 ∨ o = 9 ∨ o = 10 ∨ o = 11 ∨ o = 12 ∨ o = 13 ∨ o = 14 ∨ o = 15 ∨ o = 16 ∨ o = 17 ∨ o = 18 := by omega
  rcases hc with rfl | rfl | rfl | rfl | rfl | rfl | rfl | rfl | rfl | rfl | rfl | rfl | rfl | rfl | rfl
  · show f_Mo_made 4 a b m = some (f_Ru_value 4 a b); simp [f_Mo_made, f_Ru_value]
  · show f_Mo_made 5 a b m = some (f_Ru_value 5 a b); simp [f_Mo_made, f_Ru_value]
  · show f_Mo_made 6 a b m = some (f_Ru_value 6 a b); simp [f_Mo_made, f_Ru_value]
  · show f_Mo_made 7 a b m = some (f_Ru_value 7 a b)
    have h0 := hb (.inl rfl)
    by_cases g : b = -1
    · subst g; simp [f_Mo_made, f_Ru_value, div_m1]
    · simp [f_Mo_made, f_Ru_value, g, h0]
  · show f_Mo_made 8 a b m = some (f_Ru_value 8 a b)
    have h0 := hb (.inr rfl)
    by_cases g : b = -1
    · subst g; simp only [f_Mo_made, f_Ru_value, div_m1, mul_m1]; simp
    · simp [f_Mo_made, f_Ru_value, g, h0]
  · show f_Mo_made 9 a b m = some (f_Ru_value 9 a b); simp [f_Mo_made, f_Ru_value]
  · show f_Mo_made 10 a b m = some (f_Ru_value 10 a b); simp [f_Mo_made, f_Ru_value]
  · show f_Mo_made 11 a b m = some (f_Ru_value 11 a b); simp [f_Mo_made, f_Ru_value]
  · show f_Mo_made 12 a b m = some (f_Ru_value 12 a b); simp [f_Mo_made, f_Ru_value, f_Mo_made_J123, f_Ru_value_J183, f_Mo_shifted, f_Ru_moved]
  · show f_Mo_made 13 a b m = some (f_Ru_value 13 a b); simp [f_Mo_made, f_Ru_value, f_Mo_made_J123, f_Ru_value_J183, f_Mo_shifted, f_Ru_moved]
  · show f_Mo_made 14 a b m = some (f_Ru_value 14 a b); simp [f_Mo_made, f_Ru_value, f_Mo_made_J123, f_Ru_value_J183, f_Mo_shifted, f_Ru_moved]
  · show f_Mo_made 15 a b m = some (f_Ru_value 15 a b); by_cases g : a = b <;> simp [f_Mo_made, f_Ru_value, g]
  · show f_Mo_made 16 a b m = some (f_Ru_value 16 a b); by_cases g : a = b <;> simp [f_Mo_made, f_Ru_value, g]
  · show f_Mo_made 17 a b m = some (f_Ru_value 17 a b); by_cases g : b ≤ a <;> simp [f_Mo_made, f_Ru_value, g]
  · show f_Mo_made 18 a b m = some (f_Ru_value 18 a b)
    have e := below_eq a b
    by_cases g : f_Mo_below a b = 0 <;> simp [f_Mo_made, f_Ru_value, e, g]
theorem ru_origin {k0 k1 : Nat} {c : St} {p oa q ob : Int32} (h1 : c.1 k0 1 = p) (h0 : c.1 k0 2 = oa) (h3 : c.1 k1 1 = q) (h2 : c.1 k1 2 = ob) : f_Ru_origin k0 k1 c = some (f_Mo_originOf p oa q ob) := by
  subst h0 h1 h2 h3
  unfold f_Ru_origin f_Mo_originOf f_Ru_origin_J30 f_Mo_originOf_J17
  by_cases g1 : c.1 k1 1 = 0 <;> by_cases g2 : c.1 k0 1 = 0 <;> by_cases g3 : c.1 k1 2 ≤ c.1 k0 2 <;> simp [g1, g2, g3]
