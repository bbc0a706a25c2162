/-! ===== bytes written ===== -/
theorem b255 : ∀ i : Fin 32, 8 ≤ i.val → (255#32).getLsbD i.val = false := by decide
theorem bv_sh (y : BitVec 32) (s : Nat) (hs : s ≤ 24) : (y >>> s) &&& 255#32 = (y.sshiftRight s) &&& 255#32 := by
  ext i hi
  rw [BitVec.getElem_and, BitVec.getElem_and, BitVec.getElem_ushiftRight, BitVec.getElem_sshiftRight]
  by_cases h : i < 8
  · rw [dif_pos (by omega)]; rfl
  · have : (255#32)[i] = false := by
      rw [← BitVec.getLsbD_eq_getElem]
      exact b255 ⟨i, hi⟩ (by show 8 ≤ i; omega)
    rw [this, Bool.and_false, Bool.and_false]
theorem sh_eq (v : Int32) {i : Nat} (hi : i < 4) : ((v.toUInt32 >>> ((8 * nI i : Int32).toUInt32 &&& Int32.toUInt32 31)).toInt32) &&& 255 = (v >>> ((8 * nI i) &&& 31)) &&& 255 := by
  have e8 : (8 : Int32) * nI i = nI (8 * i) := by rw [show (8 : Int32) = nI 8 from rfl, nI_mul]
  rw [e8]
  apply Int32.toBitVec_inj.mp
  have hc : i = 0 ∨ i = 1 ∨ i = 2 ∨ i = 3 := by omega
  have k : ∀ s : Nat, s ≤ 24 → (v.toBitVec >>> s) &&& 255#32 = (v.toBitVec.sshiftRight s) &&& 255#32 := fun s hs => bv_sh v.toBitVec s hs
  rcases hc with rfl | rfl | rfl | rfl
  · exact k 0 (by omega)
  · exact k 8 (by omega)
  · exact k 16 (by omega)
  · exact k 24 (by omega)
def mB (z : Nat) (m : St) (a : Nat) (v s o : Int32) : St := uI (uI (uI m 16 (4096 * z + a) v) 17 (4096 * z + a) s) 18 (4096 * z + a) (if s = 0 then 0 else o)
theorem SI_MT {z B n i N : Nat} {t : Int32} {c0 m0 c m c' m' : St} (h : SI z B n i N t c0 m0 c m) (hR : RB z B c0 m0 c' m') (hM : IM B c') (hS : IS B c') (hT : MT B c m c' m') : SI z B n i N t c0 m0 c' m' := by
  refine SI_GT h hR hM hS (IR_of h.2.2.2.2.1 (fun k _ _ => hT.1 k (by omega))) (GT_of_MT hT) ?_
  rw [hT.1 B (by omega)]; exact h.2.2.2.2.2.2.2.2.2.2.2.1
theorem SI_pB {z B n i N : Nat} {t : Int32} {c0 m0 c m : St} (h : SI z B n i N t c0 m0 c m) {a : Nat} (ha : a < 4096) (v s o : Int32) : SI z B n i N t c0 m0 (pB B c a v s o) (mB z m a (v &&& 255) (s &&& 255) o) := by
  refine SI_MT h (RB_pB h.1 ha) (IM_pB h.2.2.1) (IS_of h.2.2.2.1 ?_ ?_ ?_) (MT_pB (MT_m (MT_m (MT_m MT_rf (by omega)) (by omega)) (by omega)))
  · unfold pB; rw [uI_n (by omega), uI_n (by omega), uI_n (by omega)]
  · unfold pB; rw [uI_n (by omega), uI_n (by omega), uI_n (by omega)]
  · unfold pB; rw [uI_n (by omega), uI_n (by omega), uI_n (by omega)]
theorem pB_n {B : Nat} {c : St} {a k : Nat} {v s o : Int32} (h : k < B + 2 ∨ B + 4 < k) : (pB B c a v s o).1 k = c.1 k := by
  unfold pB; rw [uI_n (by omega), uI_n (by omega), uI_n (by omega)]
theorem mB_n {z : Nat} {m : St} {a k : Nat} {v s o : Int32} (h : k < 16 ∨ 18 < k) : (mB z m a v s o).1 k = m.1 k := by
  unfold mB; rw [uI_n (by omega), uI_n (by omega), uI_n (by omega)]
/-- byte i of a word -/
def shv (v : Int32) (i : Nat) : Int32 := (v.toUInt32 >>> ((8 * nI i : Int32).toUInt32 &&& Int32.toUInt32 31)).toInt32
theorem me_write {B k1 : Nat} {c : St} {a k : Nat} {v s o : Int32} (hk : k ≤ 4) (ha : a + k ≤ 4096) (h1 : k1 < B + 2 ∨ B + 4 < k1) (e0 : c.1 k1 0 = v) (e1 : c.1 k1 1 = s) (e2 : c.1 k1 2 = o) : f_Me_write B k1 (nI a) (nI k) c = some (itN (fun t x => pB B t x (shv v (x - a)) (shv s (x - a)) o) c a k) := by
  have hw := wh_it (L := fun q : Int32 × St => f_Me_write_L3 B k1 (nI a) (nI k) q.1 q.2) (f := fun t x => pB B t x (shv v (x - a)) (shv s (x - a)) o) (s := c) (a := a) 0 k (fun t => t.1 k1 = c.1 k1) rfl
    (fun t i hi ht => ⟨by
      dsimp only
      unfold f_Me_write_L3
      rw [Nat.zero_add, if_neg (nI_ge hi (by omega)), ht, e0, e1, e2, nI_add, me_put (by omega), nI_1, show a + i - a = i by omega]
      rfl, by rw [pB_n h1]; exact ht⟩)
    (fun t _ => by
      dsimp only
      unfold f_Me_write_L3
      rw [Nat.zero_add, if_pos (nI_le (Nat.le_refl _) (by omega))])
  unfold f_Me_write
  rw [← nI_0, hw.1]
  rfl
theorem mo_store {z : Nat} {m : St} {a k : Nat} {v s o : Int32} (hz : m.1 0 28 = nI z) (h2 : z < 2) (hk : k ≤ 4) (ha : a + k ≤ 4096) (hv : f_Mo_areThere (nI a) (nI k) m = some (1, m)) : f_Mo_store (nI a) (nI k) v s o m = some (itN (fun t x => mB z t x (shv v (x - a) &&& 255) (shv s (x - a) &&& 255) o) m a k) := by
  have hw := wh_it (L := fun q : Int32 × St => f_Mo_store_L13 (nI a) (nI k) v s o q.1 q.2) (f := fun t x => mB z t x (shv v (x - a) &&& 255) (shv s (x - a) &&& 255) o) (s := m) (a := a) 0 k (fun t => t.1 0 28 = nI z) hz
    (fun t i hi ht => ⟨by
      dsimp only
      unfold f_Mo_store_L13 f_Mo_store_J93_1 mB
      rw [Nat.zero_add, if_neg (nI_ge hi (by omega)), ht, ix4096, nI_add, show a + i - a = i by omega, Nat.add_assoc]
      have q1 : shv v i &&& 255 = (v >>> ((8 * nI i) &&& 31)) &&& 255 := sh_eq v (by omega)
      have q2 : shv s i &&& 255 = (s >>> ((8 * nI i) &&& 31)) &&& 255 := sh_eq s (by omega)
      rw [q1, q2]
      simp only [lt, gd_nI (show 4096 * z + (a + i) < 8192 by omega) (show 8192 < 2 ^ 31 by omega), nI_clamp (show 4096 * z + (a + i) < 2 ^ 31 by omega), uI_v, nI_1]
      split <;> rfl, by rw [mB_n (by omega)]; exact ht⟩)
    (fun t _ => by
      dsimp only
      unfold f_Mo_store_L13
      rw [Nat.zero_add, if_pos (nI_le (Nat.le_refl _) (by omega))])
  unfold f_Mo_store
  rw [hv]
  simp only [Option.bind_some]
  rw [if_neg (by decide), ← nI_0, hw.1]
  rfl
/-- a word written where it may be -/
theorem S_store {z B n i N : Nat} {t : Int32} {c0 m0 c m : St} (h : SI z B n i N t c0 m0 c m) (x : Int32) {k : Nat} (hk : k = 1 ∨ k = 2 ∨ k = 4) {k1 : Nat} (h1 : B + 22 ≤ k1) {v s o : Int32} (e0 : c.1 k1 0 = v) (e1 : c.1 k1 1 = s) (e2 : c.1 k1 2 = o) :
    ∃ c' m', ((f_Ma_isValid B x (nI k) c).bind fun q9 => if q9.1 = 0 then some (q9.2) else (f_Me_write B k1 x (nI k) (q9.2)).bind fun q15 => some q15) = some c' ∧ f_Mo_store x (nI k) v s o m = some m' ∧ SI z B (n + 1) i N t c0 m0 c' m' := by
  rcases S_valid h x (k := k) (by omega) with ⟨ha, q1, q2⟩ | ⟨c', m', q1, q2, q3, q4⟩
  · obtain ⟨a, rfl, ha, _⟩ := ha.resolve_left (by omega)
    refine ⟨itN (fun t x => pB B t x (shv v (x - a)) (shv s (x - a)) o) c a k, _, ?_, mo_store (RB_z h.1) (RB_zb h.1) (by omega) ha q2, ?_⟩
    · rw [q1]
      simp only [Option.bind_some]
      rw [if_neg (by decide), me_write (by omega) ha (by omega) e0 e1 e2]
      rfl
    · exact itN_inv2 (fun s t' => SI z B (n + 1) i N t c0 m0 s t') (SI_mono h (by omega)) k (fun s' t' i' hi' hst => SI_pB hst (by omega) _ _ _)
  · refine ⟨c', m', ?_, ?_, q3⟩
    · rw [q1]
      simp only [Option.bind_some]
      rw [if_pos trivial]
    · unfold f_Mo_store
      rw [q2]
      simp only [Option.bind_some]
      rw [if_pos trivial]
theorem o_store {z B n i N P b o : Nat} {t : Int32} {c0 m0 c m : St} (h : SI z B n i N t c0 m0 c m) (hX : PX B P b i N o c0 m0) (ho : 26 ≤ o) (ho2 : o ≤ 28) :
    ∃ c' m', f_Ma_store B (nI o) c = some c' ∧ f_Mo_reach (nI o) (nI (600 * b + 3 * i)) m = some m' ∧ SI z B (n + 2) i N t c0 m0 c' m' := by
  obtain ⟨k0, k1, k2⟩ := fm_c (show 21 ≤ o by omega) ho2
  obtain ⟨r, hr⟩ := PX_R hX (by omega) k0
  obtain ⟨ra, hra⟩ := PX_R hX (by omega) k1
  obtain ⟨w, hw⟩ := PX_N hX (by omega) k2
  obtain ⟨_, q2, q3⟩ := rd_R h hX (by omega) hra (v := 1) rfl
  obtain ⟨x1, x2, x3⟩ := rd_m h hX (by omega) hra (x := nI (600 * b + 3 * i) + 1) (nI_1 _)
  obtain ⟨w1, w2⟩ := wof_n (show 21 ≤ o by omega) ho2
  obtain ⟨c1, m1, f1, f2, f3, f4⟩ := S_rep h (B + 26 + ra) 2 rfl rfl
  have kra : c1.1 (B + 26 + ra) = c.1 (B + 26 + ra) := f4.1 _ (by omega)
  obtain ⟨y1, y2, y3⟩ := rd_m f3 hX (by omega) hr (x := nI (600 * b + 3 * i)) rfl
  obtain ⟨c2, m2, g1, g2, g3⟩ := S_store f3 (c.1 (B + 26 + ra) 0 + w) w2 (k1 := B + 26 + r) (by omega) rfl rfl rfl
  have hreg : ∀ q, f_Ma_isValid B (c.1 (B + 26 + ra) 0 + w) (nI (wof o)) c1 = some q → q.1 ≠ 0 → f_Ma_registerOf B 0 q.2 = some (B + 26 + r) := by
    intro q hq h0
    rcases S_valid f3 (c.1 (B + 26 + ra) 0 + w) (k := wof o) (by omega) with ⟨_, u1, _⟩ | ⟨c', m', u1, _, u3, _⟩
    · rw [u1] at hq; cases hq
      exact (rd_R f3 hX (by omega) hr (v := 0) rfl).2.1
    · rw [u1] at hq; cases hq
      exact absurd rfl h0
  refine ⟨c2, m2, ?_, ?_, g3⟩
  · unfold f_Ma_store
    rw [q2]
    simp only [Option.bind_some]
    rw [if_pos q3, rd_o h hX (j := 2) (by omega) (v := 2) rfl, hw.2.2, w1]
    simp only [Option.bind_some, lt]
    rw [f1]
    simp only [Option.bind_some]
    cases hV : f_Ma_isValid B (c.1 (B + 26 + ra) 0 + w) (nI (wof o)) c1 with
    | none => rw [hV] at g1; exact absurd g1 (by simp)
    | some q =>
      rw [hV] at g1
      simp only [Option.bind_some] at g1 ⊢
      by_cases h0 : q.1 = 0
      · rw [if_pos h0] at g1 ⊢; exact g1
      · rw [if_neg h0] at g1 ⊢
        rw [hreg q hV h0]
        simp only [Option.bind_some]
        rw [if_pos (rd_R f3 hX (by omega) hr (v := 0) rfl).2.2]; exact g1
  · unfold f_Mo_reach
    rw [x2, x3]
    simp only [Option.bind_some]
    refine (f2 (fun q => f_Mo_reach_J22 (nI o) (nI (600 * b + 3 * i)) q)).trans ?_
    rw [mo_reach f3 hX (by omega) ho2 hra hw, kra]
    unfold f_Mo_reach_J84
    rw [if_pos (show 26 ≤ nI o from nI_le (a := 26) (by omega) (by omega)), y1, y2, y3]
    simp only [Option.bind_some]
    rw [g2]; rfl
theorem fm_d {o : Nat} (h : o = 39 ∨ o = 40 ∨ o = 44 ∨ o = 47 ∨ o = 48) : fm o 0 = 1 := by
  rcases h with rfl | rfl | rfl | rfl | rfl <;> decide
theorem o_push {z B n i N P b : Nat} {t : Int32} {c0 m0 c m : St} (h : SI z B n i N t c0 m0 c m) (hX : PX B P b i N 39 c0 m0) (he : c.1 B 11 = 0) :
    ∃ c' m', f_Ma_push B c = some c' ∧ f_Mo_push (nI (600 * b + 3 * i)) m = some m' ∧ SI z B (n + 2) i N t c0 m0 c' m' := by
  obtain ⟨r, hr⟩ := PX_R hX (j := 0) (by omega) rfl
  obtain ⟨v, s, og, nv, e1, e2, e3, e4, _⟩ := rd_t h hX (by omega) hr (B + 34) (w := 0) rfl (x := nI (600 * b + 3 * i)) rfl
  have h1 := SI_ab h (k := B + 34) (.inl rfl) (v := v) (s := s) (o := og)
  have hs7 : c.1 (B + 33) 1 = 0 := h.2.2.2.1.1
  have hz := RB_zb h.1
  obtain ⟨rg0, rg1, _⟩ := RB_reg h.1 (r := 7) (by omega)
  have e7 : (7 : Int32).toNatClampNeg = 7 := by decide
  have he1 : (dP c (B + 34) v s og).1 B 11 = 0 := by rw [dP_n0 (by omega)]; exact he
  obtain ⟨c2, m2, f1, f2, f3, f4, f5, f6⟩ := S_give h1 he1 (r := 7) (by omega) (c.1 (B + 33) 0 - 4) 0 0
  have k34 : c2.1 (B + 34) = (dP c (B + 34) v s og).1 (B + 34) := f4.1 _ (by omega)
  have eC : f_Ma_push B c = if c2.1 B 11 = 0 then ((f_Ma_isValid B (c.1 (B + 33) 0 - 4) 4 c2).bind fun q9 => if q9.1 = 0 then some (q9.2) else (f_Me_write B (B + 34) (c.1 (B + 33) 0 - 4) 4 (q9.2)).bind fun q15 => some q15) else some c2 := by
    unfold f_Ma_push
    rw [show (7 : Int32) = nI 7 from rfl, gd_nI (by omega) (by omega), nI_clamp (by omega)]
    simp only [lt, e1, Option.bind_some]
    unfold f_Ma_reportShade
    show ((if (dP c (B + 34) v s og).1 (B + 33) 1 = 0 then _ else _ : Option St).bind _) = _
    rw [dP_n0 (by omega), hs7, if_pos rfl]
    simp only [Option.bind_some]
    show (f_Ma_give B (nI 7) (c.1 (B + 33) 0 - 4) ((dP c (B + 34) v s og).1 (B + 33) 1) 0 (dP c (B + 34) v s og)).bind _ = _
    rw [dP_n0 (by omega), hs7, f1]
    rfl
  have eM : f_Mo_push (nI (600 * b + 3 * i)) m = if c2.1 B 11 = 0 then f_Mo_store (m2.1 13 (8 * z + 7)) 4 v s og m2 else some m2 := by
    unfold f_Mo_push f_Mo_push_J38
    rw [RB_z h.1, show (7 : Int32) = nI 7 from rfl, ix8, gd_nI (by omega) (by omega), nI_clamp (by omega), ← rg1]
    rw [if_pos (show c.1 (B + 26 + 7) 1 = 0 from hs7), e2, e3, e4]
    simp only [Option.bind_some]
    rw [gd_nI (by omega) (by omega), ← rg0]
    show (f_Mo_give (nI 7) (c.1 (B + 33) 0 - 4) 0 0 m).bind _ = _
    rw [f2]
    simp only [Option.bind_some, bind_rt]
    rw [RB_z f3.1, ix8, gd_nI (by omega) (by omega), gd_nI (by omega) (by omega), nI_clamp (by omega), nI_clamp (by omega), ← RB_eq f3.1 (show phi z 0 11 = some (21, z) from rfl)]
    rfl
  rw [eC, eM]
  by_cases g : c2.1 B 11 = 0
  · rw [if_pos g, if_pos g]
    have ev : m2.1 13 (8 * z + 7) = c.1 (B + 33) 0 - 4 := (RB_reg f3.1 (r := 7) (by omega)).1.symm.trans (f6 g)
    rw [ev]
    obtain ⟨c3, m3, g1, g2, g3⟩ := S_store f3 (c.1 (B + 33) 0 - 4) (k := 4) (by omega) (k1 := B + 34) (by omega) (v := v) (s := s) (o := og) (by rw [k34, dP_0]) (by rw [k34, dP_1]) (by rw [k34, dP_2' nv])
    exact ⟨c3, m3, g1, g2, SI_mono g3 (by omega)⟩
  · rw [if_neg g, if_neg g]
    exact ⟨c2, m2, rfl, rfl, SI_mono f3 (by omega)⟩
theorem o_pop {z B n i N P b : Nat} {t : Int32} {c0 m0 c m : St} (h : SI z B n i N t c0 m0 c m) (hX : PX B P b i N 40 c0 m0) (he : c.1 B 11 = 0) :
    ∃ c' m', f_Ma_pop B c = some c' ∧ f_Mo_pop (nI (600 * b + 3 * i)) m = some m' ∧ SI z B (n + 2) i N t c0 m0 c' m' := by
  obtain ⟨r, hr⟩ := PX_R hX (j := 0) (by omega) rfl
  have hs7 : c.1 (B + 33) 1 = 0 := h.2.2.2.1.1
  have hz := RB_zb h.1
  obtain ⟨rg0, rg1, _⟩ := RB_reg h.1 (r := 7) (by omega)
  have x0 : c.1 (B + 33) 0 + 0 = c.1 (B + 33) 0 := Int32.add_zero _
  obtain ⟨c2, m2, v, s, og, g1, g2, g3, g4, g5, g6, g7, g8, g9, _⟩ := S_lb h (c.1 (B + 33) 0) (k := 4) (by omega)
  have he2 : c2.1 B 11 = 0 := by rw [g6 B (by omega)]; exact he
  obtain ⟨gg, ee5, _⟩ := rd_5 h hX (j := 0) (by omega) (x := nI (600 * b + 3 * i)) rfl
  obtain ⟨c3, m3, f1, f2, f3, f4, f5, f6⟩ := S_give g2 he2 hr.1 v s (c2.1 (B + 34) 2)
  have f2' : f_Mo_give (nI r) v s og m2 = some m3 := by
    rcases g5 with g5 | g5
    · rw [g5] at f2 ⊢
      rw [give_o g2.1 g2.2.2.2.1 ((SI_69 g2).trans (SI_9 g2).symm) hr.1 v og (c2.1 (B + 34) 2)]; exact f2
    · rw [← g5]; exact f2
  obtain ⟨gg3, ee53, _⟩ := rd_5 f3 hX (j := 0) (by omega) (x := nI (600 * b + 3 * i)) rfl
  have eC : f_Ma_pop B c = if nI r = 7 then some c3 else f_Ma_give B 7 (c3.1 (B + 33) 0 + 4) (c3.1 (B + 33) 1) 0 c3 := by
    unfold f_Ma_pop f_Ma_loadBytes f_Ma_reportShade
    rw [show (7 : Int32) = nI 7 from rfl, gd_nI (by omega) (by omega), nI_clamp (by omega)]
    simp only [lt]
    show (((if c.1 (B + 33) 1 = 0 then _ else _ : Option St).bind _).bind _) = _
    rw [if_pos hs7]
    simp only [Option.bind_some]
    have g1' : ((f_Ma_isValid B (c.1 (B + 26 + 7) 0 + 0) 4 c).bind fun q4 => if q4.1 = 0 then ((f_Da_putSet (B + 34) 0 (q4.2)).bind fun q7 => some q7) else (f_Me_readInto B (B + 34) (c.1 (B + 26 + 7) 0 + 0) 4 (q4.2)).bind fun q9 => some q9) = some c2 := by
      show ((f_Ma_isValid B (c.1 (B + 33) 0 + 0) 4 c).bind fun q4 => if q4.1 = 0 then ((f_Da_putSet (B + 34) 0 (q4.2)).bind fun q7 => some q7) else (f_Me_readInto B (B + 34) (c.1 (B + 33) 0 + 0) 4 (q4.2)).bind fun q9 => some q9) = some c2
      rw [x0]; exact g1
    rw [g1']
    simp only [Option.bind_some]
    rw [(rd_R g2 hX (by omega) hr (v := 0) rfl).1, g3, g4]
    simp only [Option.bind_some]
    rw [f1]
    simp only [Option.bind_some]
    rw [(rd_R f3 hX (by omega) hr (v := 0) rfl).1]
    simp only [Option.bind_some, bind_rt]
  have eM : f_Mo_pop (nI (600 * b + 3 * i)) m = if c3.1 B 11 = 0 then (if nI r = 7 then some m3 else f_Mo_give 7 (m3.1 13 (8 * z + 7) + 4) 0 0 m3) else some m3 := by
    unfold f_Mo_pop f_Mo_pop_J38
    rw [RB_z h.1, show (7 : Int32) = nI 7 from rfl, ix8, gd_nI (by omega) (by omega), nI_clamp (by omega), ← rg1]
    rw [if_pos (show c.1 (B + 26 + 7) 1 = 0 from hs7), gg, gd_nI (by omega) (by omega), ee5, hr.2.2.1, ← rg0]
    show (f_Mo_load (nI r) (c.1 (B + 33) 0) (nI 4) 0 m).bind _ = _
    rw [g9, f2']
    simp only [Option.bind_some, bind_rt]
    rw [RB_z f3.1, ix8, gd_nI (by omega) (by omega), nI_clamp (by omega), ← RB_eq f3.1 (show phi z 0 11 = some (21, z) from rfl), gg3, ee53, hr.2.2.1, gd_nI (by omega) (by omega), nI_clamp (by omega)]
    rfl
  rw [eC, eM]
  rcases f5 with f5 | ⟨f5, f5'⟩
  · rw [if_pos f5]
    by_cases g7 : nI r = 7
    · rw [if_pos g7, if_pos g7]
      exact ⟨c3, m3, rfl, rfl, SI_mono f3 (by omega)⟩
    · rw [if_neg g7, if_neg g7]
      have hs7' : c3.1 (B + 33) 1 = 0 := f3.2.2.2.1.1
      rw [hs7', ← (RB_reg f3.1 (r := 7) (by omega)).1]
      obtain ⟨c4, m4, k1, k2, k3, _⟩ := S_give f3 f5 (r := 7) (by omega) (c3.1 (B + 33) 0 + 4) 0 0
      exact ⟨c4, m4, k1, k2, SI_mono k3 (by omega)⟩
  · rw [if_pos (show nI r = 7 by rw [f5]; rfl), if_neg (show ¬ c3.1 B 11 = 0 by rw [f5']; decide)]
    exact ⟨c3, m3, rfl, rfl, SI_mono f3 (by omega)⟩
