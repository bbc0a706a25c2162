/-! ===== the stack's pointer, and what is given to a register ===== -/
theorem bind_rt {α : Type} {x : Option α} : (x.bind fun q => some q) = x := by cases x <;> rfl
def IS (B : Nat) (c : St) : Prop := c.1 (B + 33) 1 = 0 ∧ ∃ p, 3072 ≤ p ∧ p ≤ 4096 ∧ c.1 (B + 33) 0 = nI p ∧ (c.1 (B + 1) 5 = 0 → ∀ a, 3072 ≤ a → a < 4096 → (c.1 (B + 5) a ≠ 0 ↔ p ≤ a))
theorem IS_of {B : Nat} {c c' : St} (h : IS B c) (h1 : c'.1 (B + 1) 5 = c.1 (B + 1) 5) (h5 : c'.1 (B + 5) = c.1 (B + 5)) (h33 : c'.1 (B + 33) = c.1 (B + 33)) : IS B c' := by
  unfold IS; rw [h1, h5, h33]; exact h
def msC (B v : Nat) (o : Int32) (c : St) (a : Nat) : St := if a < v then uI c (B + 5) a 0 else if c.1 (B + 5) a = 0 then ub B c a o else c
def msM (z v : Nat) (o : Int32) (m : St) (a : Nat) : St := if a < v then uI m 19 (4096 * z + a) 0 else if m.1 19 (4096 * z + a) = 0 then um z m a o else m
theorem RB_ms {z B v : Nat} {c0 m0 c m : St} {a : Nat} {o : Int32} (h : RB z B c0 m0 c m) (ha : a < 4096) : RB z B c0 m0 (msC B v o c a) (msM z v o m a) := by
  unfold msC msM
  rw [(RB_mem h ha).2.2.2]
  by_cases h1 : a < v
  · rw [if_pos h1, if_pos h1]; exact RB_setM h (d := 5) (by omega) (by omega) ha
  · rw [if_neg h1, if_neg h1]
    by_cases h2 : m.1 19 (4096 * z + a) = 0
    · rw [if_pos h2, if_pos h2]; exact RB_ub h ha
    · rw [if_neg h2, if_neg h2]; exact h
theorem MT_ms {z B v : Nat} {c m c' m' : St} {a : Nat} {o : Int32} (h : MT B c m c' m') (e : c'.1 (B + 5) a = m'.1 19 (4096 * z + a)) : MT B c m (msC B v o c' a) (msM z v o m' a) := by
  unfold msC msM
  rw [e]
  by_cases h1 : a < v
  · rw [if_pos h1, if_pos h1]; exact MT_c (MT_m h (by omega)) (by omega) (by omega) (by omega)
  · rw [if_neg h1, if_neg h1]
    by_cases h2 : m'.1 19 (4096 * z + a) = 0
    · rw [if_pos h2, if_pos h2]; exact MT_ub h
    · rw [if_neg h2, if_neg h2]; exact h
theorem IM_ms {B v : Nat} {c : St} {a : Nat} {o : Int32} (h : IM B c) : IM B (msC B v o c a) := by
  unfold msC
  split
  · exact IM_of h (by rw [uI_n (by omega)]) (by rw [uI_n (by omega)]) (by rw [uI_n (by omega)])
  · split
    · exact IM_ub h
    · exact h
theorem ms_open {B v : Nat} {c : St} {a x : Nat} {o : Int32} : (msC B v o c a).1 (B + 5) x = if x = a then (if a < v then 0 else if c.1 (B + 5) a = 0 then 1 else c.1 (B + 5) a) else c.1 (B + 5) x := by
  unfold msC
  by_cases h1 : a < v
  · simp only [if_pos h1, uI_g2]; by_cases e : x = a <;> simp [e]
  · simp only [if_neg h1]
    by_cases h2 : c.1 (B + 5) a = 0
    · simp only [if_pos h2, ub_open]
    · simp only [if_neg h2]; by_cases e : x = a <;> simp [e]
theorem ms_opens {B v : Nat} {c : St} {o : Int32} {lo : Nat} : ∀ n x, (itN (msC B v o) c lo n).1 (B + 5) x = if lo ≤ x ∧ x < lo + n then (if x < v then 0 else if c.1 (B + 5) x = 0 then 1 else c.1 (B + 5) x) else c.1 (B + 5) x
  | 0, x => by rw [if_neg (by omega)]; rfl
  | n + 1, x => by
    show (msC B v o (itN (msC B v o) c lo n) (lo + n)).1 (B + 5) x = _
    rw [ms_open, ms_opens n (lo + n), ms_opens n x, if_neg (show ¬ (lo ≤ lo + n ∧ lo + n < lo + n) by omega)]
    by_cases e : x = lo + n
    · subst e
      rw [if_pos rfl, if_pos (show lo ≤ lo + n ∧ lo + n < lo + (n + 1) by omega)]
    · rw [if_neg e]
      by_cases e2 : lo ≤ x ∧ x < lo + n
      · rw [if_pos e2, if_pos (show lo ≤ x ∧ x < lo + (n + 1) by omega)]
      · rw [if_neg e2, if_neg (show ¬ (lo ≤ x ∧ x < lo + (n + 1)) by omega)]
theorem me_msL {B : Nat} {c : St} {v lo n : Nat} {o : Int32} (hn : lo + n ≤ 4096) (hv : v < 2 ^ 31) : wh (fun a : Int32 × St => f_Me_moveStack_L44 B (nI v) o (nI (lo + n)) a.1 a.2) (nI lo, c) = some (nI (lo + n), itN (msC B v o) c lo n) := by
  refine (wh_it (f := msC B v o) (s := c) (a := lo) lo n (fun _ => True) trivial (fun t i hi _ => ⟨?_, trivial⟩) (fun t _ => ?_)).1
  · dsimp only
    unfold f_Me_moveStack_L44 f_Me_moveStack_J86_1 msC
    rw [if_neg (nI_ge (show lo + i < lo + n by omega) (by omega))]
    have e1 : (nI (lo + i)).toNatClampNeg = lo + i := nI_clamp (by omega)
    simp only [gd_nI (show lo + i < 4096 by omega) (by decide : 4096 < 2 ^ 31), e1, nI_1, bN0, lt]
    by_cases h1 : lo + i < v
    · rw [if_neg (nI_ge h1 hv), if_pos h1]
    · rw [if_pos (nI_le (by omega) (by omega)), if_neg h1]
      by_cases h2 : t.1 (B + 5) (lo + i) = 0
      · rw [if_pos h2, if_pos h2, show (1 : Int32) = nI 1 from rfl, me_unset (by omega)]
        rfl
      · rw [if_neg h2, if_neg h2]
  · dsimp only
    unfold f_Me_moveStack_L44
    rw [if_pos (nI_le (Nat.le_refl _) (by omega))]
theorem mo_msL {z : Nat} {m : St} {v : Nat} {v1 v3 v4 : Int32} (hz : m.1 0 28 = nI z) (h2 : z < 2) (hv : v < 2 ^ 31) : wh (fun a : Int32 × St => f_Mo_give_L35 v1 (nI v) v3 v4 a.1 a.2) (3072, m) = some (4096, itN (msM z v (512 + m.1 0 69)) m 3072 1024) := by
  refine (wh_it (L := fun a : Int32 × St => f_Mo_give_L35 v1 (nI v) v3 v4 a.1 a.2) (f := msM z v (512 + m.1 0 69)) (s := m) (a := 3072) 3072 1024 (fun t => t.1 0 28 = nI z ∧ t.1 0 69 = m.1 0 69) ⟨hz, rfl⟩ (fun t i hi ht => ⟨?_, ?_⟩) (fun t _ => ?_)).1
  · dsimp only
    unfold f_Mo_give_L35 f_Mo_give_J102_1 msM
    rw [if_neg (show ¬ (4096 : Int32) ≤ nI (3072 + i) from nI_ge (b := 4096) (by omega) (by decide))]
    have e1 : (nI (4096 * z + (3072 + i))).toNatClampNeg = 4096 * z + (3072 + i) := nI_clamp (by omega)
    have g1 : ∀ {β : Type} (o : Option β), gd (nI (4096 * z + (3072 + i))) 8192 o = o := fun o => gd_nI (by omega) (by omega)
    simp only [ht.1, ht.2, ix4096, g1, e1, nI_1, bN0, lt]
    by_cases h1 : 3072 + i < v
    · rw [if_neg (nI_ge h1 hv), if_pos h1]
    · rw [if_pos (nI_le (by omega) (by omega)), if_neg h1]
      by_cases h3 : t.1 19 (4096 * z + (3072 + i)) = 0
      · rw [if_pos h3, if_pos h3, mo_unset ht.1 h2 (by omega)]
        rfl
      · rw [if_neg h3, if_neg h3]
  · have : (msM z v (512 + m.1 0 69) t (3072 + i)).1 0 = t.1 0 := by
      unfold msM um
      split
      · rw [uI_n (by omega)]
      · split
        · rw [uI_n (by omega), uI_n (by omega), uI_n (by omega), uI_n (by omega), uI_n (by omega)]
        · rfl
    rw [this]; exact ht
  · dsimp only
    unfold f_Mo_give_L35
    rw [if_pos (show (4096 : Int32) ≤ nI (3072 + 1024) by decide)]
theorem ms_noop {B v : Nat} {t : St} {a : Nat} {o : Int32} (h : ¬ a < v) (ho : t.1 (B + 5) a ≠ 0) : msC B v o t a = t := by
  unfold msC; rw [if_neg h, if_neg ho]
theorem ms_full {B : Nat} {c : St} {v p : Nat} {o : Int32} (hv : 3072 ≤ v) (hv2 : v ≤ 4096) (hp : 3072 ≤ p) (hp2 : p ≤ 4096) (ho : ∀ a, 3072 ≤ a → a < 4096 → (c.1 (B + 5) a ≠ 0 ↔ p ≤ a)) : itN (msC B v o) c 3072 1024 = itN (msC B v o) c (min v p) (max v p - min v p) := by
  have e1 : 1024 = (min v p - 3072) + ((max v p - min v p) + (4096 - max v p)) := by omega
  rw [e1, itN_add, itN_id (min v p - 3072) (fun i hi => ?_), show 3072 + (min v p - 3072) = min v p by omega, itN_add, show min v p + (max v p - min v p) = max v p by omega]
  · refine itN_id _ (fun i hi => ?_)
    refine ms_noop (by omega) ?_
    have e2 := ms_opens (B := B) (v := v) (c := c) (o := o) (lo := min v p) (max v p - min v p) (max v p + i)
    rw [if_neg (by omega)] at e2
    rw [e2]; exact (ho (max v p + i) (by omega) (by omega)).mpr (by omega)
  · unfold msC
    rw [if_pos (by omega)]
    refine uI_same ?_
    have := ho (3072 + i) (by omega) (by omega)
    exact Classical.byContradiction (fun h => by have := this.mp h; omega)
theorem me_moveStack {B : Nat} {c : St} {v p : Nat} {o : Int32} (hv : 3072 ≤ v) (hv2 : v ≤ 4096) (hp : 3072 ≤ p) (hp2 : p ≤ 4096) (ho : c.1 (B + 1) 5 = 0 → ∀ a, 3072 ≤ a → a < 4096 → (c.1 (B + 5) a ≠ 0 ↔ p ≤ a)) : f_Me_moveStack B (nI p) (nI v) o c = some (uI (itN (msC B v o) c 3072 1024) (B + 1) 5 0) := by
  unfold f_Me_moveStack f_Me_moveStack_J18 f_Me_moveStack_J38
  by_cases hm : c.1 (B + 1) 5 = 0
  · simp only [lt, if_pos hm]
    rw [ms_full hv hv2 hp hp2 (ho hm)]
    have a1 : (if nI v < nI p then nI v else nI p) = nI (min v p) := by
      by_cases h : v < p
      · rw [if_pos (nI_lt h (by omega)), Nat.min_eq_left (by omega)]
      · rw [if_neg (nI_nlt (by omega) (by omega)), Nat.min_eq_right (by omega)]
    have a2 : (if nI p < nI v then nI v else nI p) = nI (min v p + (max v p - min v p)) := by
      rw [show min v p + (max v p - min v p) = max v p by omega]
      by_cases h : p < v
      · rw [if_pos (nI_lt h (by omega)), Nat.max_eq_left (by omega)]
      · rw [if_neg (nI_nlt (by omega) (by omega)), Nat.max_eq_right (by omega)]
    rw [a1, a2, me_msL (by omega) (by omega)]
    rfl
  · simp only [lt, if_neg hm]
    rw [show (3072 : Int32) = nI 3072 from rfl, show (4096 : Int32) = nI (3072 + 1024) from rfl, me_msL (by omega) (by omega)]
    rfl
def dP (c : St) (k : Nat) (v s o : Int32) : St := uI (uI (uI c k 0 v) k 1 s) k 2 (if s = 0 then 0 else o)
theorem da_put {c : St} {k : Nat} {v s o : Int32} : f_Da_put k v s o c = some (dP c k v s o) := by
  unfold f_Da_put f_Da_put_J20 dP
  simp only [lt]
  split <;> rfl
theorem and7 {r : Nat} (hr : r < 8) : nI r &&& 7 = nI r := by
  have : ∀ r : Fin 8, nI r.val &&& 7 = nI r.val := by decide +kernel
  exact this ⟨r, hr⟩
theorem uI_uI {s : St} {k j : Nat} {v w : Int32} : uI (uI s k j v) k j w = uI s k j w := by
  have e : upd (upd (s.1 k) j v) j w = upd (s.1 k) j w := by funext i; unfold upd; split <;> rfl
  have e2 : ∀ f g : Nat → Int32, va_up (va_up s.1 k f) k g = va_up s.1 k g := by intro f g; funext i; unfold va_up; split <;> rfl
  show uC (uI s k j v) k (upd ((uI s k j v).1 k) j w) = uC s k _
  rw [uI_e, e]
  show (va_up (va_up s.1 k _) k _, _, _) = _
  rw [e2]; rfl
theorem ma_trap {B : Nat} {c : St} {v : Int32} : f_Ma_trap B v c = some (uI (uI c B 11 (1 + v)) B 13 ((c.1 B 13 * 31 + 4) * 31 + v)) := by
  unfold f_Ma_trap f_Ma_addToMark
  simp only [lt, Option.bind_some, uI_v, uI_uI]
  rw [uI_o (by omega)]
theorem mo_trap {z : Nat} {m : St} {v : Int32} (hz : m.1 0 28 = nI z) (h2 : z < 2) (he : m.1 21 z = 0) : f_Mo_trap v m = some (uI (uI m 21 z (1 + v)) 23 z ((m.1 23 z * 31 + 4) * 31 + v)) := by
  have e1 : (nI z).toNatClampNeg = z := nI_clamp (by omega)
  have g1 : ∀ {β : Type} (o : Option β), gd (nI z) 2 o = o := fun o => gd_nI h2 (by omega)
  unfold f_Mo_trap
  simp only [lt, hz, g1, e1, he]
  rw [if_pos (by decide), uI_n (by omega), hz, g1, g1, e1, uI_n (by omega)]
/-- what a gift leaves as it was -/
def GT (B : Nat) (c m c' m' : St) : Prop := (∀ k, k < B ∨ (B + 6 ≤ k ∧ k < B + 26) ∨ B + 34 ≤ k → c'.1 k = c.1 k) ∧ (∀ j, j ≠ 11 → j ≠ 13 → c'.1 B j = c.1 B j) ∧ (∀ k, k < 13 ∨ 25 ≤ k ∨ k = 20 ∨ k = 22 → m'.1 k = m.1 k)
theorem RB_trap {z B : Nat} {c0 m0 c m : St} {v : Int32} (h : RB z B c0 m0 c m) (he : c.1 B 11 = 0) : ∃ c' m', f_Ma_trap B v c = some c' ∧ f_Mo_trap v m = some m' ∧ RB z B c0 m0 c' m' ∧ (∀ k, k ≠ B → c'.1 k = c.1 k) ∧ (∀ j, j ≠ 11 → j ≠ 13 → c'.1 B j = c.1 B j) ∧ (∀ k, k ≠ 21 → k ≠ 23 → m'.1 k = m.1 k) ∧ c'.1 B 11 = 1 + v := by
  have p1 : phi z 0 11 = some (21, z) := rfl
  have p2 : phi z 0 13 = some (23, z) := rfl
  have e1 : c.1 B 11 = m.1 21 z := RB_eq h p1
  have e2 : c.1 B 13 = m.1 23 z := RB_eq h p2
  refine ⟨_, _, ma_trap, mo_trap (RB_z h) (RB_zb h) (e1.symm.trans he), ?_, fun k hk => ?_, fun j h1 h2 => ?_, fun k h1 h2 => ?_, by rw [uI_o (by omega), uI_v]⟩
  · rw [e2]; exact RB_set (d := 0) (RB_set (d := 0) h p1 (by omega) (by unfold own; omega)) p2 (by omega) (by unfold own; omega)
  · rw [uI_n hk, uI_n hk]
  · rw [uI_o (by omega), uI_o (by omega)]
  · rw [uI_n h2, uI_n h1]
theorem mo_J108 {z : Nat} {m : St} {r : Nat} {v s o : Int32} (hz : m.1 0 28 = nI z) (h2 : z < 2) (hr : r < 8) : f_Mo_give_J108 (nI r) v s o m = some (uI (uI (uI m 13 (8 * z + r) v) 14 (8 * z + r) s) 15 (8 * z + r) (if s = 0 then 0 else o)) := by
  have e1 : (nI (8 * z + r)).toNatClampNeg = 8 * z + r := nI_clamp (by omega)
  have g1 : ∀ {β : Type} (o : Option β), gd (nI (8 * z + r)) 16 o = o := fun o => gd_nI (by omega) (by omega)
  unfold f_Mo_give_J108 f_Mo_give_J161
  simp only [lt, uI_n (show (0 : Nat) ≠ 13 by omega), uI_n (show (0 : Nat) ≠ 14 by omega), hz, ix8, g1, e1]
  split <;> rfl
theorem RB_dP {z B : Nat} {c0 m0 c m : St} {r : Nat} {v s o : Int32} (h : RB z B c0 m0 c m) (hr : r < 8) : RB z B c0 m0 (dP c (B + 26 + r) v s o) (uI (uI (uI m 13 (8 * z + r) v) 14 (8 * z + r) s) 15 (8 * z + r) (if s = 0 then 0 else o)) :=
  RB_setR (RB_setR (RB_setR h hr (j := 0) (by omega)) hr (j := 1) (by omega)) hr (j := 2) (by omega)
theorem dP_n {c : St} {k k' : Nat} {v s o : Int32} (h : k' ≠ k) : (dP c k v s o).1 k' = c.1 k' := by
  unfold dP; rw [uI_n h, uI_n h, uI_n h]
theorem dP_0 {c : St} {k : Nat} {v s o : Int32} : (dP c k v s o).1 k 0 = v := by unfold dP; rw [uI_o (by omega), uI_o (by omega), uI_v]
theorem dP_1 {c : St} {k : Nat} {v s o : Int32} : (dP c k v s o).1 k 1 = s := by unfold dP; rw [uI_o (by omega), uI_v]
theorem dP_2 {c : St} {k : Nat} {v s o : Int32} : (dP c k v s o).1 k 2 = if s = 0 then 0 else o := by unfold dP; rw [uI_v]
/-- a register that isn't the pointer -/
theorem give_r {z B : Nat} {c0 m0 c m : St} (h : RB z B c0 m0 c m) {r : Nat} (hr : r < 7) (v s o : Int32) : f_Ma_give B (nI r) v s o c = some (dP c (B + 26 + r) v s o) ∧ f_Mo_give (nI r) v s o m = some (uI (uI (uI m 13 (8 * z + r) v) 14 (8 * z + r) s) 15 (8 * z + r) (if s = 0 then 0 else o)) := by
  have hne : ¬ nI r = 7 := fun e => by have := (nI_eq (b := 7) (by omega) (by decide)).mp e; omega
  constructor
  · unfold f_Ma_give f_Ma_give_J62
    rw [and7 (by omega), gd_nI (by omega) (by omega), if_neg hne, nI_clamp (by omega), da_put]; rfl
  · unfold f_Mo_give
    rw [if_neg hne, mo_J108 (RB_z h) (RB_zb h) (by omega)]
theorem give_bad {B : Nat} {c m : St} {v s o : Int32} (hb : s ≠ 0 ∨ v < 3072 ∨ 4096 < v) : f_Ma_give B 7 v s o c = f_Ma_trap B 2 c ∧ f_Mo_give 7 v s o m = f_Mo_trap 2 m := by
  unfold f_Ma_give f_Ma_give_J35 f_Mo_give f_Mo_give_J24
  have b1 : (f_Ma_trap B 2 c).bind (fun q6 => some q6) = f_Ma_trap B 2 c := bind_rt
  have b2 : (f_Mo_trap 2 m).bind (fun q6 => some q6) = f_Mo_trap 2 m := bind_rt
  rw [show (7 : Int32) &&& 7 = nI 7 from rfl, gd_nI (by omega) (by omega), if_pos rfl, if_pos rfl, b1, b2]
  by_cases h1 : s = 0
  · rw [if_pos h1, if_pos h1]
    by_cases h2 : v < 3072
    · rw [if_pos h2, if_pos h2]; exact ⟨rfl, rfl⟩
    · have h3 : ¬ v ≤ 4096 := by
        have := hb.resolve_left (fun h => h h1)
        exact Int32.not_le.mpr (this.resolve_left h2)
      rw [if_neg h2, if_neg h2, if_neg h3, if_neg h3]; exact ⟨rfl, rfl⟩
  · rw [if_neg h1, if_neg h1]; exact ⟨rfl, rfl⟩
theorem give_7 {z B : Nat} {c0 m0 c m : St} (h : RB z B c0 m0 c m) (hS : IS B c) (hi : m.1 0 69 = c.1 B 9) {q : Nat} (h1 : 3072 ≤ q) (h2 : q ≤ 4096) (o : Int32) :
    f_Ma_give B 7 (nI q) 0 o c = some (dP (uI (itN (msC B q (512 + c.1 B 9)) c 3072 1024) (B + 1) 5 0) (B + 33) (nI q) 0 o)
    ∧ f_Mo_give 7 (nI q) 0 o m = some (uI (uI (uI (itN (msM z q (512 + c.1 B 9)) m 3072 1024) 13 (8 * z + 7) (nI q)) 14 (8 * z + 7) 0) 15 (8 * z + 7) 0) := by
  obtain ⟨s1, p, p1, p2, p3, p4⟩ := hS
  have n1 : ¬ nI q < 3072 := nI_nlt (b := 3072) h1 (by omega)
  have n2 : nI q ≤ 4096 := nI_le (b := 4096) h2 (by decide)
  constructor
  · unfold f_Ma_give f_Ma_give_J62
    rw [show (7 : Int32) &&& 7 = nI 7 from rfl, gd_nI (by omega) (by omega), if_pos rfl, if_pos rfl, if_neg n1, if_pos n2, nI_clamp (by omega)]
    show (f_Me_moveStack B (c.1 (B + 33) 0) (nI q) (512 + c.1 B 9) c).bind _ = _
    rw [p3, me_moveStack h1 h2 p1 p2 p4]
    simp only [Option.bind_some, da_put]
  · unfold f_Mo_give
    rw [if_pos rfl, if_pos rfl, if_neg n1, if_pos n2, mo_msL (RB_z h) (RB_zb h) (by omega), hi]
    simp only [Option.bind_some]
    have hz : (itN (msM z q (512 + c.1 B 9)) m 3072 1024).1 0 28 = nI z := by
      refine itN_inv (fun t => t.1 0 28 = nI z) (RB_z h) 1024 (fun t i hi ht => ?_)
      unfold msM um
      split
      · rw [uI_n (by omega)]; exact ht
      · split
        · rw [uI_n (by omega), uI_n (by omega), uI_n (by omega), uI_n (by omega), uI_n (by omega)]; exact ht
        · exact ht
    rw [show (7 : Int32) = nI 7 from rfl, mo_J108 hz (RB_zb h) (by omega), if_pos rfl]
theorem GT_of_MT {B : Nat} {c m c' m' : St} (h : MT B c m c' m') : GT B c m c' m' := by
  refine ⟨fun k hk => h.1 k (by omega), fun j _ _ => ?_, fun k hk => h.2.2 k (by omega)⟩
  rw [h.1 B (by omega)]
theorem GT_rf {B : Nat} {c m : St} : GT B c m c m := ⟨fun _ _ => rfl, fun _ _ _ => rfl, fun _ _ => rfl⟩
theorem GT_tr {B : Nat} {c m c' m' c2 m2 : St} (h : GT B c m c' m') (g : GT B c' m' c2 m2) : GT B c m c2 m2 :=
  ⟨fun k hk => (g.1 k hk).trans (h.1 k hk), fun j a b => (g.2.1 j a b).trans (h.2.1 j a b), fun k a => (g.2.2 k a).trans (h.2.2 k a)⟩
def IR (B : Nat) (c : St) : Prop := ∀ r, r < 8 → c.1 (B + 26 + r) 1 = 0 → c.1 (B + 26 + r) 2 = 0
theorem IR_of {B : Nat} {c c' : St} (h : IR B c) (h2 : ∀ k, B + 26 ≤ k → k < B + 34 → c'.1 k = c.1 k) : IR B c' := by
  intro r hr
  rw [h2 _ (by omega) (by omega)]; exact h r hr
theorem IR_dP {B : Nat} {c : St} {r : Nat} {v s o : Int32} (h : IR B c) : IR B (dP c (B + 26 + r) v s o) := by
  intro r' hr'
  by_cases e : r' = r
  · subst e; rw [dP_1, dP_2]; intro h; rw [if_pos h]
  · rw [dP_n (by omega)]; exact h r' hr'
theorem s_give {z B : Nat} {c0 m0 c m : St} (h : RB z B c0 m0 c m) (hM : IM B c) (hS : IS B c) (hI : IR B c) (hi : m.1 0 69 = c.1 B 9) (he : c.1 B 11 = 0) {r : Nat} (hr : r < 8) (v s o : Int32) :
    ∃ c' m', f_Ma_give B (nI r) v s o c = some c' ∧ f_Mo_give (nI r) v s o m = some m' ∧ RB z B c0 m0 c' m' ∧ IM B c' ∧ IS B c' ∧ IR B c' ∧ GT B c m c' m' ∧ (c'.1 B 11 = 0 ∨ (r = 7 ∧ c'.1 B 11 = 3)) ∧ (c'.1 B 11 = 0 → c'.1 (B + 26 + r) 0 = v) := by
  by_cases h7 : r = 7
  · subst h7
    by_cases hb : s ≠ 0 ∨ v < 3072 ∨ 4096 < v
    · obtain ⟨c', m', e1, e2, e3, e4, e5, e6, e7⟩ := RB_trap (v := 2) h he
      obtain ⟨b1, b2⟩ := give_bad (B := B) (c := c) (m := m) (o := o) hb
      refine ⟨c', m', b1.trans e1, b2.trans e2, e3, IM_of hM (e4 _ (by omega)) (e4 _ (by omega)) (e4 _ (by omega)), IS_of hS (by rw [e4 _ (by omega)]) (e4 _ (by omega)) (e4 _ (by omega)), IR_of hI (fun k _ _ => e4 k (by omega)), ⟨fun k hk => e4 k (by omega), e5, fun k hk => e6 k (by omega) (by omega)⟩, .inr ⟨rfl, e7⟩, fun h => absurd (e7.symm.trans h) (by decide)⟩
    · have h0 : s = 0 := Classical.byContradiction (fun h => hb (.inl h))
      have hl : ¬ v < 3072 := fun h => hb (.inr (.inl h))
      have hg : ¬ 4096 < v := fun h => hb (.inr (.inr h))
      subst h0
      obtain ⟨q, hq, rfl⟩ : ∃ q, q ≤ 4096 ∧ v = nI q := nI_rngL (n := 4096) (by decide) (Int32.le_trans (by decide) (Int32.not_lt.mp hl)) (Int32.not_lt.mp hg)
      have hq1 : 3072 ≤ q := (nI_leI (a := 3072) (by decide) (by omega)).mp (Int32.not_lt.mp hl)
      obtain ⟨g1, g2⟩ := give_7 h hS hi hq1 hq o
      have hRM : RB z B c0 m0 (itN (msC B q (512 + c.1 B 9)) c 3072 1024) (itN (msM z q (512 + c.1 B 9)) m 3072 1024) ∧ MT B c m (itN (msC B q (512 + c.1 B 9)) c 3072 1024) (itN (msM z q (512 + c.1 B 9)) m 3072 1024) :=
        itN_inv2 (fun s t => RB z B c0 m0 s t ∧ MT B c m s t) ⟨h, MT_rf⟩ 1024 (fun s t i hi hst => ⟨RB_ms hst.1 (by omega), MT_ms hst.2 (RB_mem hst.1 (show 3072 + i < 4096 by omega)).2.2.2⟩)
      have hIM : IM B (itN (msC B q (512 + c.1 B 9)) c 3072 1024) := itN_inv (IM B) hM 1024 (fun t i hi ht => IM_ms ht)
      have hop := fun x => ms_opens (B := B) (v := q) (c := c) (o := 512 + c.1 B 9) (lo := 3072) 1024 x
      obtain ⟨hR, hMT⟩ := hRM
      generalize itN (msC B q (512 + c.1 B 9)) c 3072 1024 = c1 at g1 hR hMT hIM hop
      generalize itN (msM z q (512 + c.1 B 9)) m 3072 1024 = m1 at g2 hR hMT
      have hR2 := RB_dP (r := 7) (v := nI q) (s := 0) (o := o) (RB_c (v := 0) hR (d := 1) (j := 5) rfl (by omega)) (by omega)
      rw [if_pos rfl] at hR2
      refine ⟨_, _, g1, g2, hR2, ?_, ⟨?_, q, hq1, hq, ?_, fun _ a ha1 ha2 => ?_⟩, IR_dP (r := 7) (IR_of hI (fun k h1 h2 => by rw [uI_n (by omega)]; exact hMT.1 k (by omega))), ⟨fun k hk => ?_, fun j _ _ => ?_, fun k hk => ?_⟩, .inl ?_, fun _ => dP_0⟩
      · exact IM_of hIM (by rw [dP_n (by omega), uI_n (by omega)]) (by rw [dP_n (by omega), uI_n (by omega)]) (by rw [dP_n (by omega), uI_n (by omega)])
      · exact dP_1
      · exact dP_0
      · rw [dP_n (by omega), uI_n (by omega), hop, if_pos (by omega)]
        by_cases ha : a < q
        · rw [if_pos ha]; constructor
          · intro h; exact absurd rfl h
          · intro h; omega
        · rw [if_neg ha]
          by_cases hb : c.1 (B + 5) a = 0
          · rw [if_pos hb]; constructor
            · intro _; omega
            · intro _; decide
          · rw [if_neg hb]; exact ⟨fun _ => by omega, fun _ => hb⟩
      · rw [dP_n (by omega), uI_n (by omega)]; exact hMT.1 k (by omega)
      · rw [dP_n (by omega), uI_n (by omega), hMT.1 B (by omega)]
      · rw [uI_n (by omega), uI_n (by omega), uI_n (by omega)]; exact hMT.2.2 k (by omega)
      · rw [dP_n (by omega), uI_n (by omega), hMT.1 B (by omega)]; exact he
  · obtain ⟨g1, g2⟩ := give_r h (show r < 7 by omega) v s o
    refine ⟨_, _, g1, g2, RB_dP h hr, ?_, ?_, IR_dP hI, ⟨fun k hk => ?_, fun j _ _ => ?_, fun k hk => ?_⟩, .inl ?_, fun _ => dP_0⟩
    · exact IM_of hM (dP_n (by omega)) (dP_n (by omega)) (dP_n (by omega))
    · exact IS_of hS (by rw [dP_n (by omega)]) (dP_n (by omega)) (dP_n (by omega))
    · exact dP_n (by omega)
    · rw [dP_n (by omega)]
    · rw [uI_n (by omega), uI_n (by omega), uI_n (by omega)]
    · rw [dP_n (by omega)]; exact he
