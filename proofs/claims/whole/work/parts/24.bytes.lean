/-! ===== bytes ===== -/
def dw (s : Int32) : Int32 := s * 1664525 + 1013904223
def dv (s : Int32) : Int32 := s ^^^ ((s.toUInt32 >>> ((16 : Int32).toUInt32 &&& Int32.toUInt32 31)).toInt32)
theorem me_draw {B : Nat} {c : St} : f_Me_nextFilling B c = some (dv (dw (c.1 (B + 1) 4)), uI c (B + 1) 4 (dw (c.1 (B + 1) 4))) := by
  unfold f_Me_nextFilling; simp only [lt, uI_v]; rfl
theorem mo_draw {z : Nat} {m : St} (hz : m.1 0 28 = nI z) (h2 : z < 2) : f_Mo_drawn m = some (dv (dw (m.1 24 z)), uI m 24 z (dw (m.1 24 z))) := by
  have e1 : (nI z).toNatClampNeg = z := nI_clamp (by omega)
  have g1 : ∀ {β : Type} (o : Option β), gd (nI z) 2 o = o := fun o => gd_nI h2 (by omega)
  unfold f_Mo_drawn
  simp only [lt, uI_n (show (0 : Nat) ≠ 24 by omega), hz, g1, e1, uI_v]; rfl
/-- a byte put -/
def pB (B : Nat) (c : St) (a : Nat) (v s o : Int32) : St := uI (uI (uI c (B + 2) a (v &&& 255)) (B + 3) a (s &&& 255)) (B + 4) a (if s &&& 255 = 0 then 0 else o)
theorem me_put {B : Nat} {c : St} {a : Nat} {v s o : Int32} (ha : a < 4096) : f_Me_putByte B (nI a) v s o c = some (pB B c a v s o) := by
  have e1 : (nI a).toNatClampNeg = a := nI_clamp (by omega)
  have g1 : ∀ {β : Type} (o : Option β), gd (nI a) 4096 o = o := fun o => gd_nI ha (by omega)
  unfold f_Me_putByte f_Me_putByte_J42 pB
  simp only [lt, g1, e1, uI_v]
  split <;> rfl
/-- a byte that is unset: the bench, the reference -/
def ub (B : Nat) (c : St) (a : Nat) (o : Int32) : St := pB B (uI (uI c (B + 5) a 1) (B + 1) 4 (dw (c.1 (B + 1) 4))) a (dv (dw (c.1 (B + 1) 4))) 255 o
def um (z : Nat) (m : St) (a : Nat) (o : Int32) : St := uI (uI (uI (uI (uI m 19 (4096 * z + a) 1) 24 z (dw (m.1 24 z))) 16 (4096 * z + a) (dv (dw (m.1 24 z)) &&& 255)) 17 (4096 * z + a) 255) 18 (4096 * z + a) o
theorem mo_unset {z : Nat} {m : St} {a : Nat} {o : Int32} (hz : m.1 0 28 = nI z) (h2 : z < 2) (ha : a < 4096) : f_Mo_unset (nI a) o m = some (um z m a o) := by
  have e1 : (nI (4096 * z + a)).toNatClampNeg = 4096 * z + a := nI_clamp (by omega)
  have g1 : ∀ {β : Type} (o : Option β), gd (nI (4096 * z + a)) 8192 o = o := fun o => gd_nI (by omega) (by omega)
  unfold f_Mo_unset
  simp only [lt, hz, ix4096, g1, e1]
  rw [mo_draw (z := z) (by rw [uI_n (by omega)]; exact hz) h2, bN1]
  simp only [Option.bind_some]
  rw [uI_n (show 24 ≠ 19 by omega)]
  rfl
theorem me_isByte {a : Nat} (ha : a < 4096) : f_Me_isByte (nI a) = 1 := by
  unfold f_Me_isByte
  rw [if_neg (nI_pos (by omega)), if_neg (show ¬ (4096 : Int32) ≤ nI a from nI_ge (b := 4096) ha (by decide))]
theorem me_isByteN {a : Nat} (ha : 4096 ≤ a) (h : a < 2 ^ 31) : f_Me_isByte (nI a) = 0 := by
  unfold f_Me_isByte
  rw [if_neg (nI_pos h), if_pos (show (4096 : Int32) ≤ nI a from nI_le (a := 4096) ha h)]
/-- many bytes in turn -/
def itN (f : St → Nat → St) (s : St) (a : Nat) : Nat → St
  | 0 => s
  | n + 1 => f (itN f s a n) (a + n)
theorem itN_add {f : St → Nat → St} {s : St} {a n : Nat} : ∀ k, itN f s a (n + k) = itN f (itN f s a n) (a + n) k
  | 0 => rfl
  | k + 1 => by show f (itN f s a (n + k)) (a + (n + k)) = f _ _; rw [itN_add k, Nat.add_assoc]
theorem itN_id {f : St → Nat → St} {s : St} {a : Nat} : ∀ n, (∀ i, i < n → f s (a + i) = s) → itN f s a n = s
  | 0, _ => rfl
  | n + 1, h => by
    show f (itN f s a n) (a + n) = s
    rw [itN_id n (fun i hi => h i (by omega))]; exact h n (by omega)
theorem itN_inv {f : St → Nat → St} {s : St} {a : Nat} (P : St → Prop) (h0 : P s) : ∀ n, (∀ t i, i < n → P t → P (f t (a + i))) → P (itN f s a n)
  | 0, _ => h0
  | n + 1, h => h _ n (by omega) (itN_inv P h0 n (fun t i hi => h t i (by omega)))
theorem itN_inv2 {f g : St → Nat → St} {s t : St} {a : Nat} (P : St → St → Prop) (h0 : P s t) : ∀ n, (∀ s t i, i < n → P s t → P (f s (a + i)) (g t (a + i))) → P (itN f s a n) (itN g t a n)
  | 0, _ => h0
  | n + 1, h => h _ _ n (by omega) (itN_inv2 P h0 n (fun t u i hi => h t u i (by omega)))
/-- a loop over a counter and a store -/
theorem wh_it {L : Int32 × St → Option ((Int32 × St) ⊕ (Int32 × St))} {f : St → Nat → St} {s : St} {a : Nat} (lo n : Nat) (inv : St → Prop) (h0 : inv s)
    (hs : ∀ t i, i < n → inv t → L (nI (lo + i), t) = some (.inl (nI (lo + i + 1), f t (a + i))) ∧ inv (f t (a + i)))
    (he : ∀ t, inv t → L (nI (lo + n), t) = some (.inr (nI (lo + n), t))) : wh L (nI lo, s) = some (nI (lo + n), itN f s a n) ∧ inv (itN f s a n) := by
  have key : ∀ k, k ≤ n → wh L (nI lo, s) = wh L (nI (lo + k), itN f s a k) ∧ inv (itN f s a k) := by
    intro k
    induction k with
    | zero => exact fun _ => ⟨rfl, h0⟩
    | succ k ih =>
      intro hk
      obtain ⟨h1, h2⟩ := ih (by omega)
      obtain ⟨h3, h4⟩ := hs _ k (by omega) h2
      exact ⟨h1.trans (wh_inl h3), h4⟩
  obtain ⟨h1, h2⟩ := key n (Nat.le_refl _)
  exact ⟨h1.trans (wh_inr (he _ h2)), h2⟩
theorem me_unset {B : Nat} {c : St} {a n : Nat} {o : Int32} (h : a + n ≤ 4096) : f_Me_unset B (nI a) (nI n) o c = some (itN (fun s x => ub B s x o) c a n) := by
  have hw := wh_it (L := fun q : Int32 × St => f_Me_unset_L3 B (nI a) (nI n) o q.1 q.2) (f := fun s x => ub B s x o) (s := c) (a := a) 0 n (fun _ => True) trivial
    (fun t i hi _ => ⟨by
      dsimp only
      unfold f_Me_unset_L3
      rw [Nat.zero_add, if_neg (nI_ge hi (by omega)), nI_add, me_isByte (by omega), if_neg (by decide), gd_nI (by omega) (by omega), nI_clamp (by omega), bN1]
      simp only [lt, me_draw, Option.bind_some]
      rw [me_put (by omega), uI_n (show B + 1 ≠ B + 5 by omega)]
      simp only [Option.bind_some, nI_1]
      rfl, trivial⟩)
    (fun t _ => by
      dsimp only
      unfold f_Me_unset_L3
      rw [Nat.zero_add, if_pos (nI_le (Nat.le_refl _) (by omega))])
  unfold f_Me_unset
  rw [← nI_0, hw.1]
  rfl
theorem RB_pB {z B : Nat} {c0 m0 c m : St} {a : Nat} {v s o : Int32} (h : RB z B c0 m0 c m) (ha : a < 4096) : RB z B c0 m0 (pB B c a v s o) (uI (uI (uI m 16 (4096 * z + a) (v &&& 255)) 17 (4096 * z + a) (s &&& 255)) 18 (4096 * z + a) (if s &&& 255 = 0 then 0 else o)) :=
  RB_setM (RB_setM (RB_setM h (d := 2) (by omega) (by omega) ha) (d := 3) (by omega) (by omega) ha) (d := 4) (by omega) (by omega) ha
theorem RB_ub {z B : Nat} {c0 m0 c m : St} {a : Nat} {o : Int32} (h : RB z B c0 m0 c m) (ha : a < 4096) : RB z B c0 m0 (ub B c a o) (um z m a o) := by
  have p : phi z 1 4 = some (24, z) := rfl
  have e := RB_eq h p
  unfold ub um
  rw [e]
  have h1 := RB_pB (v := dv (dw (m.1 24 z))) (s := 255) (o := o) (RB_set (v := dw (m.1 24 z)) (RB_setM (v := 1) h (d := 5) (by omega) (by omega) ha) p (by omega) (by unfold own; omega)) ha
  rw [show (255 : Int32) &&& 255 = 255 by decide, if_neg (by decide)] at h1
  exact h1
/-- what bytes leave as it was -/
def MT (B : Nat) (c m c' m' : St) : Prop := (∀ k, k < B + 1 ∨ B + 6 ≤ k → c'.1 k = c.1 k) ∧ c'.1 (B + 1) 5 = c.1 (B + 1) 5 ∧ (∀ k, k < 16 ∨ (20 ≤ k ∧ k ≠ 24) → m'.1 k = m.1 k)
theorem MT_rf {B : Nat} {c m : St} : MT B c m c m := ⟨fun _ _ => rfl, rfl, fun _ _ => rfl⟩
theorem MT_tr {B : Nat} {c m c' m' c2 m2 : St} (h : MT B c m c' m') (g : MT B c' m' c2 m2) : MT B c m c2 m2 :=
  ⟨fun k hk => (g.1 k hk).trans (h.1 k hk), g.2.1.trans h.2.1, fun k a => (g.2.2 k a).trans (h.2.2 k a)⟩
theorem MT_c {B : Nat} {c m c' m' : St} {d j : Nat} {v : Int32} (h : MT B c m c' m') (h1 : 1 ≤ d) (h2 : d < 6) (h3 : ¬ (d = 1 ∧ j = 5)) : MT B c m (uI c' (B + d) j v) m' :=
  ⟨fun k hk => by rw [uI_n (by omega)]; exact h.1 k hk, by rw [uI_o (by omega)]; exact h.2.1, h.2.2⟩
theorem MT_m {B : Nat} {c m c' m' : St} {k i : Nat} {v : Int32} (h : MT B c m c' m') (h1 : (16 ≤ k ∧ k < 20) ∨ k = 24) : MT B c m c' (uI m' k i v) :=
  ⟨h.1, h.2.1, fun k' hk => by rw [uI_n (by omega)]; exact h.2.2 k' hk⟩
theorem MT_pB {B : Nat} {c m c' m' : St} {a : Nat} {v s o : Int32} (h : MT B c m c' m') : MT B c m (pB B c' a v s o) m' :=
  MT_c (MT_c (MT_c h (d := 2) (by omega) (by omega) (by omega)) (d := 3) (by omega) (by omega) (by omega)) (d := 4) (by omega) (by omega) (by omega)
theorem MT_ub {z B : Nat} {c m c' m' : St} {a : Nat} {o : Int32} (h : MT B c m c' m') : MT B c m (ub B c' a o) (um z m' a o) :=
  MT_pB (MT_c (MT_c (MT_m (MT_m (MT_m (MT_m (MT_m h (by omega)) (by omega)) (by omega)) (by omega)) (by omega)) (d := 5) (by omega) (by omega) (by omega)) (d := 1) (by omega) (by omega) (by omega))
/-- bytes are bytes; what is set has no origin -/
def IM (B : Nat) (c : St) : Prop := ∀ a, a < 4096 → c.1 (B + 2) a &&& 255 = c.1 (B + 2) a ∧ (c.1 (B + 3) a = 0 → c.1 (B + 4) a = 0)
theorem IM_of {B : Nat} {c c' : St} (h : IM B c) (h2 : c'.1 (B + 2) = c.1 (B + 2)) (h3 : c'.1 (B + 3) = c.1 (B + 3)) (h4 : c'.1 (B + 4) = c.1 (B + 4)) : IM B c' := by
  unfold IM; rw [h2, h3, h4]; exact h
theorem and255 (v : Int32) : v &&& 255 &&& 255 = v &&& 255 := by rw [Int32.and_assoc]; rfl
theorem IM_pB {B : Nat} {c : St} {a : Nat} {v s o : Int32} (h : IM B c) : IM B (pB B c a v s o) := by
  intro x hx
  obtain ⟨h1, h2⟩ := h x hx
  unfold pB
  simp only [uI_g2]
  by_cases e : x = a
  · subst e
    simp [and255]
    intro h3 h4; exact absurd h3 h4
  · simp [e, h1]; exact h2
theorem IM_ub {B : Nat} {c : St} {a : Nat} {o : Int32} (h : IM B c) : IM B (ub B c a o) :=
  IM_pB (IM_of h (by rw [uI_n (by omega), uI_n (by omega)]) (by rw [uI_n (by omega), uI_n (by omega)]) (by rw [uI_n (by omega), uI_n (by omega)]))
theorem ub_open {B : Nat} {c : St} {a x : Nat} {o : Int32} : (ub B c a o).1 (B + 5) x = if x = a then 1 else c.1 (B + 5) x := by
  unfold ub pB; simp [uI_g2]
