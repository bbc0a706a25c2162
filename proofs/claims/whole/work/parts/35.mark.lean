/-! ===== marking, looking ===== -/
theorem rng_eq (a k : Int32) : f_Ma_isRange a k = f_Mo_areIn a k := by
  unfold f_Ma_isRange f_Mo_areIn
  by_cases hc : f_Ma_isCount k = 0
  · rw [if_pos hc]
    by_cases h1 : k < 0
    · rw [if_pos h1]
    · rw [if_neg h1, if_pos ((cnt_out hc).resolve_left h1)]
  · obtain ⟨q, hq, rfl⟩ := cnt_in hc
    rw [if_neg hc, if_neg (nI_pos (by omega)), if_neg (show ¬ 256 < nI q from nI_nlt (a := 256) hq (by omega))]
    unfold f_Me_holds
    by_cases h0 : q = 0
    · subst h0; rw [if_pos (show nI 0 = 0 from rfl), if_pos (show nI 0 = 0 from rfl)]; rfl
    · have n0 : ¬ nI q = 0 := nI_ne0 (by omega) (by omega)
      rw [if_neg n0, if_neg n0]
      by_cases h2 : a < 0
      · rw [if_pos h2, if_pos h2]; rfl
      · rw [if_neg h2, if_neg h2, if_neg (nI_nle (by omega) (by omega)), if_neg (show ¬ 4096 < nI q from nI_nlt (a := 4096) (by omega) (by omega))]
        by_cases h3 : 4096 - nI q < a
        · rw [if_pos h3]; rfl
        · rw [if_neg h3]; rfl
theorem rng_in {a k : Int32} (h : ¬ f_Mo_areIn a k = 0) : ∃ q, q ≤ 256 ∧ k = nI q ∧ ∃ a', (q = 0 ∨ a = nI a') ∧ a' + q ≤ 4096 := by
  unfold f_Mo_areIn at h
  by_cases h1 : k < 0
  · rw [if_pos h1] at h; exact absurd rfl h
  rw [if_neg h1] at h
  by_cases h2 : 256 < k
  · rw [if_pos h2] at h; exact absurd rfl h
  rw [if_neg h2] at h
  obtain ⟨q, hq, rfl⟩ : ∃ q, q ≤ 256 ∧ k = nI q := nI_rngL (n := 256) (by decide) (Int32.not_lt.mp h1) (Int32.not_lt.mp h2)
  refine ⟨q, hq, rfl, ?_⟩
  by_cases h0 : q = 0
  · exact ⟨0, .inl h0, by omega⟩
  rw [if_neg (nI_ne0 (by omega) (by omega))] at h
  by_cases h3 : a < 0
  · rw [if_pos h3] at h; exact absurd rfl h
  rw [if_neg h3, show (4096 : Int32) = nI 4096 from rfl, nI_sub (by omega)] at h
  by_cases h4 : nI (4096 - q) < a
  · rw [if_pos h4] at h; exact absurd rfl h
  obtain ⟨a', ha, rfl⟩ := nI_rngL (n := 4096 - q) (by omega) (Int32.not_lt.mp h3) (Int32.not_lt.mp h4)
  exact ⟨a', .inr rfl, by omega⟩
theorem IS_op {B : Nat} {c c' : St} (h : IS B c) (h1 : c'.1 (B + 1) 5 = c.1 (B + 1) 5) (h33 : c'.1 (B + 33) = c.1 (B + 33)) (h5 : c.1 (B + 1) 5 ≠ 0 ∨ ∀ y, 3072 ≤ y → c'.1 (B + 5) y = c.1 (B + 5) y) : IS B c' := by
  obtain ⟨s1, p, p1, p2, p3, p4⟩ := h
  unfold IS
  rw [h1, h33]
  refine ⟨s1, p, p1, p2, p3, fun h0 a ha1 ha2 => ?_⟩
  rcases h5 with h5 | h5
  · exact absurd h0 h5
  · rw [h5 a ha1]; exact p4 h0 a ha1 ha2
/-- a byte's mark of being there, set -/
theorem SI_open {z B n i N : Nat} {t : Int32} {c0 m0 c m : St} (h : SI z B n i N t c0 m0 c m) {a : Nat} (ha : a < 4096) (ho : a < 3072 ∨ c.1 (B + 1) 5 ≠ 0) (v : Int32) : SI z B n i N t c0 m0 (uI c (B + 5) a v) (uI m 19 (4096 * z + a) v) := by
  refine SI_MT h (RB_setM h.1 (d := 5) (by omega) (by omega) ha) (IM_of h.2.2.1 (uI_n (by omega)) (uI_n (by omega)) (uI_n (by omega))) (IS_op h.2.2.2.1 (by rw [uI_n (by omega)]) (uI_n (by omega)) ?_) (MT_c (MT_m MT_rf (by omega)) (d := 5) (by omega) (by omega) (by omega))
  rcases ho with ho | ho
  · exact .inr (fun y hy => uI_o (by omega))
  · exact .inl ho
theorem SI_ub {z B n i N : Nat} {t : Int32} {c0 m0 c m : St} (h : SI z B n i N t c0 m0 c m) {a : Nat} (ha : a < 4096) (ho : a < 3072 ∨ c.1 (B + 1) 5 ≠ 0) (o : Int32) : SI z B n i N t c0 m0 (ub B c a o) (um z m a o) := by
  refine SI_MT h (RB_ub h.1 ha) (IM_ub h.2.2.1) (IS_op h.2.2.2.1 ?_ ?_ ?_) (MT_ub MT_rf)
  · unfold ub; rw [pB_n (by omega), uI_o (by omega), uI_n (by omega)]
  · unfold ub; rw [pB_n (by omega), uI_n (by omega), uI_n (by omega)]
  · rcases ho with ho | ho
    · exact .inr (fun y hy => by rw [ub_open, if_neg (by omega)])
    · exact .inl ho
/-- set as it is -/
def stC (B : Nat) (c : St) (a : Nat) : St := pB B (uI c (B + 5) a 1) a (c.1 (B + 2) a) 0 0
def stM (z : Nat) (m : St) (a : Nat) : St := uI (uI (uI m 19 (4096 * z + a) 1) 17 (4096 * z + a) 0) 18 (4096 * z + a) 0
theorem SI_st {z B n i N : Nat} {t : Int32} {c0 m0 c m : St} (h : SI z B n i N t c0 m0 c m) {a : Nat} (ha : a < 4096) (ho : a < 3072 ∨ c.1 (B + 1) 5 ≠ 0) : SI z B n i N t c0 m0 (stC B c a) (stM z m a) := by
  have h1 := SI_pB (SI_open h ha ho 1) ha (c.1 (B + 2) a) 0 0
  have e : mB z (uI m 19 (4096 * z + a) 1) a (c.1 (B + 2) a &&& 255) (0 &&& 255) 0 = stM z m a := by
    unfold mB stM
    rw [(h.2.2.1 a ha).1, show (0 : Int32) &&& 255 = 0 by decide, if_pos rfl, uI_same (k := 16) (by rw [uI_n (by omega), (RB_mem h.1 ha).1])]
  rw [e] at h1
  exact h1
theorem S_noteMark {z B n i N : Nat} {t : Int32} {c0 m0 c m : St} (h : SI z B n i N t c0 m0 c m) {x : Int32} {a k : Nat} (hk : k ≤ 256) (hx : k = 0 ∨ x = nI a) (ha : a + k ≤ 4096) :
    ∃ c', f_Me_noteMark B x (nI k) c = some c' ∧ SI z B n i N t c0 m0 c' m ∧ (∀ q, q ≠ B + 1 → c'.1 q = c.1 q) ∧ (∀ y, a ≤ y → y < a + k → y < 3072 ∨ c'.1 (B + 1) 5 ≠ 0) := by
  have on : ∃ c', f_Me_noteMark_J21 B c = some c' ∧ SI z B n i N t c0 m0 c' m ∧ (∀ q, q ≠ B + 1 → c'.1 q = c.1 q) ∧ (∀ y, a ≤ y → y < a + k → y < 3072 ∨ c'.1 (B + 1) 5 ≠ 0) := by
    refine ⟨uI c (B + 1) 5 1, ?_, ?_, fun q hq => uI_n hq, fun y _ _ => .inr (by rw [uI_v]; decide)⟩
    · unfold f_Me_noteMark_J21 f_Me_noteMark_J26 gz
      rw [if_pos (.inr rfl)]; rfl
    · have hR : RB z B c0 m0 (uI c (B + 1) 5 1) m := RB_c h.1 (d := 1) (j := 5) rfl (by omega)
      refine SI_GT h hR (IM_of h.2.2.1 (uI_n (by omega)) (uI_n (by omega)) (uI_n (by omega))) ?_ (IR_of h.2.2.2.2.1 (fun k _ _ => uI_n (by omega))) ⟨fun k hk => uI_n (by omega), fun j _ _ => by rw [uI_n (by omega)], fun k hk => rfl⟩ (by rw [uI_n (by omega)]; exact h.2.2.2.2.2.2.2.2.2.2.2.1)
      obtain ⟨s1, p, p1, p2, p3, p4⟩ := h.2.2.2.1
      unfold IS
      rw [uI_n (show B + 33 ≠ B + 1 by omega), uI_v]
      exact ⟨s1, p, p1, p2, p3, fun h => absurd h (by decide)⟩
  have off : c.1 (B + 1) 5 = 0 → (∀ y, a ≤ y → y < a + k → y < 3072) → ∃ c', f_Me_noteMark_J25 B c = some c' ∧ SI z B n i N t c0 m0 c' m ∧ (∀ q, q ≠ B + 1 → c'.1 q = c.1 q) ∧ (∀ y, a ≤ y → y < a + k → y < 3072 ∨ c'.1 (B + 1) 5 ≠ 0) := by
    intro h0 hy
    refine ⟨c, ?_, h, fun _ _ => rfl, fun y h1 h2 => .inl (hy y h1 h2)⟩
    unfold f_Me_noteMark_J25 f_Me_noteMark_J26 gz
    rw [if_pos (.inl rfl), lt_eq, uI_same h0]
  unfold f_Me_noteMark
  by_cases h0 : c.1 (B + 1) 5 = 0
  · rw [if_pos h0]
    by_cases hk0 : k = 0
    · subst hk0; rw [if_pos (by decide)]; exact off h0 (fun y h1 h2 => by omega)
    · rw [if_neg (nI_nle (by omega) (by omega)), hx.resolve_left hk0, nI_add]
      by_cases h3 : a + k ≤ 3072
      · rw [if_pos (show nI (a + k) ≤ 3072 from nI_le (b := 3072) h3 (by decide))]; exact off h0 (fun y h1 h2 => by omega)
      · rw [if_neg (show ¬ nI (a + k) ≤ 3072 from nI_ge (a := 3072) (by omega) (by omega))]; exact on
  · rw [if_neg h0]; exact on
theorem me_close {B : Nat} {c : St} {x : Int32} {a k : Nat} (hx : k = 0 ∨ x = nI a) (ha : a + k ≤ 4096) : f_Me_close B x (nI k) c = some (itN (fun t y => uI t (B + 5) y 0) c a k) := by
  have hw := wh_it (L := fun q : Int32 × St => f_Me_close_L2 B x (nI k) q.1 q.2) (f := fun t y => uI t (B + 5) y 0) (s := c) (a := a) 0 k (fun _ => True) trivial
    (fun t i hi _ => ⟨by
      dsimp only
      unfold f_Me_close_L2
      rw [Nat.zero_add, if_neg (nI_ge hi (by omega)), hx.resolve_left (by omega), nI_add, me_isByte (by omega), if_neg (by decide), gd_nI (by omega) (by omega), nI_clamp (by omega), bN0, nI_1]
      rfl, trivial⟩)
    (fun t _ => by
      dsimp only
      unfold f_Me_close_L2
      rw [Nat.zero_add, if_pos (nI_le (Nat.le_refl _) (by omega))])
  unfold f_Me_close
  rw [← nI_0, hw.1]
  rfl
theorem me_setAs {B : Nat} {c : St} {x : Int32} {a k : Nat} (hx : k = 0 ∨ x = nI a) (ha : a + k ≤ 4096) : f_Me_setAsTheyAre B x (nI k) c = some (itN (stC B) c a k) := by
  have hw := wh_it (L := fun q : Int32 × St => f_Me_setAsTheyAre_L2 B x (nI k) q.1 q.2) (f := stC B) (s := c) (a := a) 0 k (fun _ => True) trivial
    (fun t i hi _ => ⟨by
      dsimp only
      unfold f_Me_setAsTheyAre_L2 stC
      rw [Nat.zero_add, if_neg (nI_ge hi (by omega)), hx.resolve_left (by omega), nI_add, me_isByte (by omega), if_neg (by decide), gd_nI (by omega) (by omega), nI_clamp (by omega), bN1, nI_1]
      simp only [lt]
      rw [gd_nI (by omega) (by omega), me_put (by omega), uI_n (show B + 2 ≠ B + 5 by omega)]
      rfl, trivial⟩)
    (fun t _ => by
      dsimp only
      unfold f_Me_setAsTheyAre_L2
      rw [Nat.zero_add, if_pos (nI_le (Nat.le_refl _) (by omega))])
  unfold f_Me_setAsTheyAre
  rw [← nI_0, hw.1]
  rfl
theorem me_unset' {B : Nat} {c : St} {x : Int32} {a k : Nat} {o : Int32} (hx : k = 0 ∨ x = nI a) (ha : a + k ≤ 4096) : f_Me_unset B x (nI k) o c = some (itN (fun s x => ub B s x o) c a k) := by
  by_cases h0 : k = 0
  · subst h0
    unfold f_Me_unset
    rw [wh_inr (b := (0, c)) (by dsimp only; unfold f_Me_unset_L3; rw [if_pos (by decide)])]
    rfl
  · rw [hx.resolve_left h0]; exact me_unset ha
/-- the reference's marking of a byte -/
def mkM (z md : Nat) (o : Int32) (m : St) (a : Nat) : St := if md = 0 then uI m 19 (4096 * z + a) 0 else if md = 1 then um z m a o else stM z m a
theorem mkM_0 {z md : Nat} {o : Int32} {m : St} {a : Nat} : (mkM z md o m a).1 0 = m.1 0 := by
  unfold mkM um stM
  split
  · rw [uI_n (by omega)]
  · split
    · rw [uI_n (by omega), uI_n (by omega), uI_n (by omega), uI_n (by omega), uI_n (by omega)]
    · rw [uI_n (by omega), uI_n (by omega), uI_n (by omega)]
theorem mo_markL {z : Nat} {m : St} {x : Int32} {a k md i : Nat} (hz : m.1 0 28 = nI z) (h2 : z < 2) (hi : m.1 0 69 = nI i) (hi2 : i < 200) (hk : k ≤ 256) (hx : k = 0 ∨ x = nI a) (ha : a + k ≤ 4096) (hm : md < 3) :
    wh (fun q : Int32 × St => f_Mo_marked_L92 x (nI k) (nI md) q.1 q.2) (0, m) = some (nI k, itN (mkM z md (256 + nI i)) m a k) := by
  have hw := wh_it (L := fun q : Int32 × St => f_Mo_marked_L92 x (nI k) (nI md) q.1 q.2) (f := mkM z md (256 + nI i)) (s := m) (a := a) 0 k (fun t => t.1 0 = m.1 0) rfl
    (fun t i' hi' ht => ⟨by
      dsimp only
      have hz2 : t.1 0 28 = nI z := by rw [ht]; exact hz
      have h69 : t.1 0 69 = nI i := by rw [ht]; exact hi
      unfold f_Mo_marked_L92 f_Mo_marked_J148_1 f_Mo_marked_J171_1 f_Mo_marked_J186_1 f_Mo_marked_J200_1
      rw [Nat.zero_add, if_neg (nI_ge hi' (by omega)), hz2, h69, hx.resolve_left (by omega), ix4096, nI_add, nI_add, Nat.add_assoc]
      simp only [lt, gd_nI (show 4096 * z + (a + i') < 8192 by omega) (show 8192 < 2 ^ 31 by omega), nI_clamp (show 4096 * z + (a + i') < 2 ^ 31 by omega), nI_1]
      rw [if_neg (show ¬ 256 ≤ nI i from nI_ge (b := 256) (by omega) (by omega))]
      have hc : md = 0 ∨ md = 1 ∨ md = 2 := by omega
      rcases hc with rfl | rfl | rfl
      · rw [if_neg (show ¬ nI 0 = 1 by decide), if_neg (show ¬ nI 0 = 2 by decide), if_neg (show ¬ nI 0 = 2 by decide), bN0]; rfl
      · rw [if_pos (show nI 1 = 1 from rfl), mo_unset hz2 h2 (by omega)]; rfl
      · rw [if_neg (show ¬ nI 2 = 1 by decide), if_pos (show nI 2 = 2 from rfl), if_pos (show nI 2 = 2 from rfl), bN1]; rfl, by rw [mkM_0]; exact ht⟩)
    (fun t _ => by
      dsimp only
      unfold f_Mo_marked_L92
      rw [Nat.zero_add, if_pos (nI_le (Nat.le_refl _) (by omega))])
  have := hw.1
  rw [nI_0, Nat.zero_add] at this
  exact this
theorem o_mark {z B n i N P b : Nat} {t : Int32} {c0 m0 c m : St} (h : SI z B n i N t c0 m0 c m) (hX : PX B P b i N 49 c0 m0) (he : c.1 B 11 = 0) :
    ∃ c' m', f_Ma_markBytes B c = some c' ∧ f_Mo_marked (nI (600 * b + 3 * i)) m = some m' ∧ SI z B (n + 2) i N t c0 m0 c' m' := by
  obtain ⟨ra, hra⟩ := PX_R hX (j := 0) (by omega) rfl
  have hkb := PX_E hX (j := 1) (by omega) rfl
  obtain ⟨md, hmd⟩ := PX_N hX (j := 2) (by omega) rfl
  obtain ⟨va, sa, oa, na, ea, xa, ya, za, _⟩ := rd_t h hX (by omega) hra (B + 34) (w := 0) rfl (x := nI (600 * b + 3 * i)) rfl
  have h1 := SI_ab h (k := B + 34) (.inl rfl) (v := va) (s := sa) (o := oa)
  obtain ⟨vb, sb, ob, nb, eb, xb, yb, zb⟩ := rd_e h1 hX (by omega) hkb (B + 35) (w := 1) rfl (x := nI (600 * b + 3 * i) + 1) (nI_1 _)
  have h2 := SI_ab h1 (k := B + 35) (.inr rfl) (v := vb) (s := sb) (o := ob)
  have ha0 : (dP (dP c (B + 34) va sa oa) (B + 35) vb sb ob).1 (B + 34) 0 = va := by rw [dP_n0 (by omega), dP_0]
  have ha1 : (dP (dP c (B + 34) va sa oa) (B + 35) vb sb ob).1 (B + 34) 1 = sa := by rw [dP_n0 (by omega), dP_1]
  have ha2 : (dP (dP c (B + 34) va sa oa) (B + 35) vb sb ob).1 (B + 34) 2 = oa := by rw [dP_n0 (by omega), dP_2' na]
  have hb0 : (dP (dP c (B + 34) va sa oa) (B + 35) vb sb ob).1 (B + 35) 0 = vb := dP_0
  have hb1 : (dP (dP c (B + 34) va sa oa) (B + 35) vb sb ob).1 (B + 35) 1 = sb := dP_1
  have hb2 : (dP (dP c (B + 34) va sa oa) (B + 35) vb sb ob).1 (B + 35) 2 = ob := dP_2' nb
  have he2 : (dP (dP c (B + 34) va sa oa) (B + 35) vb sb ob).1 B 11 = 0 := by rw [dP_n0 (by omega), dP_n0 (by omega)]; exact he
  have q4 := rd_o h2 hX (j := 2) (by omega) (v := 2) rfl
  rw [hmd.2.2] at q4
  obtain ⟨g5, e5, _⟩ := rd_5 h hX (j := 2) (by omega) (x := nI (600 * b + 3 * i) + 2) (nI_add _ 2)
  have eC0 : ∃ K : St → Option St, f_Ma_markBytes B c = (f_Ma_reportShade B (B + 34) 2 (dP (dP c (B + 34) va sa oa) (B + 35) vb sb ob)).bind (fun q7 => (f_Ma_reportShade B (B + 35) 5 q7).bind K) ∧ ∀ q9, K q9 = if md < 0 then f_Ma_markBytes_J72 B q9 else if 2 < md then f_Ma_markBytes_J72 B q9 else if (f_Ma_isRange (q9.1 (B + 34) 0) (q9.1 (B + 35) 0)) = 0 then f_Ma_markBytes_J72 B q9 else (f_Me_noteMark B (q9.1 (B + 34) 0) (q9.1 (B + 35) 0) q9).bind fun q16 => if md = 0 then ((f_Me_close B (q16.1 (B + 34) 0) (q16.1 (B + 35) 0) q16).bind fun q25 => some q25) else if md = 1 then (lt (if 255 < (q16.1 B 9) then 255 else (q16.1 B 9)) fun x22 => (f_Me_unset B (q16.1 (B + 34) 0) (q16.1 (B + 35) 0) (256 + x22) q16).bind fun q23 => some q23) else (f_Me_setAsTheyAre B (q16.1 (B + 34) 0) (q16.1 (B + 35) 0) q16).bind fun q20 => some q20 := by
    refine ⟨_, ?_, fun q9 => rfl⟩
    unfold f_Ma_markBytes
    rw [ea, Option.bind_some, eb, Option.bind_some, q4, Option.bind_some]
  obtain ⟨K, eC0, hK⟩ := eC0
  rw [eC0]
  generalize dP (dP c (B + 34) va sa oa) (B + 35) vb sb ob = c2 at h2 ha0 ha1 ha2 hb0 hb1 hb2 he2
  obtain ⟨c3, m3, f1, f2, f3, f4⟩ := S_rep h2 (B + 34) 2 ha1 ha2
  have k35 : c3.1 (B + 35) = c2.1 (B + 35) := f4.1 _ (by omega)
  obtain ⟨c4, m4, g1, g2, g3, g4⟩ := S_rep f3 (B + 35) 5 (s := sb) (o := ob) (by rw [k35]; exact hb1) (by rw [k35]; exact hb2)
  have k35' : c4.1 (B + 35) = c2.1 (B + 35) := (g4.1 _ (by omega)).trans k35
  have k34' : c4.1 (B + 34) = c2.1 (B + 34) := (g4.1 _ (by omega)).trans (f4.1 _ (by omega))
  have he4 : c4.1 B 11 = 0 := by rw [g4.1 B (by omega), f4.1 B (by omega)]; exact he2
  have eM : f_Mo_marked (nI (600 * b + 3 * i)) m = f_Mo_marked_J64 va vb md m4 := by
    unfold f_Mo_marked
    rw [xa, Option.bind_some, xb, Option.bind_some, g5, lt_eq, e5, hmd.2.1, ya, Option.bind_some, za]
    simp only [Option.bind_some]
    refine (f2 (fun q => f_Mo_marked_J42 (nI (600 * b + 3 * i)) va vb md q)).trans ?_
    unfold f_Mo_marked_J42
    rw [(NT_rd f4 _).2.1, yb, (NT_rd f4 _).2.2, zb]
    simp only [Option.bind_some]
    exact g2 (fun q => f_Mo_marked_J64 va vb md q)
  rw [eM, f1, Option.bind_some, g1, Option.bind_some, hK, k35', hb0, k34', ha0, rng_eq]
  unfold f_Mo_marked_J64 f_Mo_marked_J83 f_Ma_markBytes_J72
  have hi200 := (PX_lt hX).2
  have trap : ∃ c' m', ((f_Ma_trap B 4 c4).bind fun q12 => some q12) = some c' ∧ ((f_Mo_trap 4 m4).bind fun q13 => some q13) = some m' ∧ SI z B (n + 2) i N t c0 m0 c' m' := by
    obtain ⟨c5, m5, u1, u2, u3⟩ := S_trap g3 he4 (v := 4) (by omega)
    refine ⟨c5, m5, ?_, ?_, u3⟩
    · show (f_Ma_trap B (nI 4) c4).bind _ = _; rw [u1]; rfl
    · show (f_Mo_trap (nI 4) m4).bind _ = _; rw [u2]; rfl
  by_cases d0 : md < 0
  · rw [if_pos d0, if_pos d0]; exact trap
  rw [if_neg d0, if_neg d0]
  by_cases d2 : 2 < md
  · rw [if_pos d2, if_pos d2]; exact trap
  rw [if_neg d2, if_neg d2]
  by_cases d3 : f_Mo_areIn va vb = 0
  · rw [if_pos d3, if_pos d3]; exact trap
  rw [if_neg d3, if_neg d3]
  obtain ⟨k, hk, rfl, a, hx, ha⟩ := rng_in d3
  obtain ⟨q, hq, rfl⟩ : ∃ q, q ≤ 2 ∧ md = nI q := nI_rngL (n := 2) (by decide) (Int32.not_lt.mp d0) (Int32.not_lt.mp d2)
  obtain ⟨c5, u1, u2, u3, u4⟩ := S_noteMark g3 hk hx ha
  have v34 : c5.1 (B + 34) 0 = va := by rw [u3 _ (by omega), k34']; exact ha0
  have v35 : c5.1 (B + 35) 0 = nI k := by rw [u3 _ (by omega), k35']; exact hb0
  have v9 : c5.1 B 9 = nI i := SI_9 u2
  have keep : ∀ {s u : St}, SI z B (n + 2) i N t c0 m0 s u → s.1 (B + 1) 5 = c5.1 (B + 1) 5 → ∀ j, j < k → a + j < 3072 ∨ s.1 (B + 1) 5 ≠ 0 := fun _ e j hj => by rw [e]; exact u4 _ (by omega) (by omega)
  rw [u1, Option.bind_some, v34, v35, v9, mo_markL (RB_z u2.1) (RB_zb u2.1) (SI_69 u2) hi200 hk hx ha (md := q) (by omega)]
  have hc : q = 0 ∨ q = 1 ∨ q = 2 := by omega
  rcases hc with rfl | rfl | rfl
  · rw [if_pos (show nI 0 = 0 from rfl), me_close hx ha]
    refine ⟨_, _, rfl, rfl, ?_⟩
    refine (itN_inv2 (fun s u => SI z B (n + 2) i N t c0 m0 s u ∧ s.1 (B + 1) 5 = c5.1 (B + 1) 5) ⟨u2, rfl⟩ k (fun s u j hj hst => ⟨?_, ?_⟩)).1
    · exact SI_open hst.1 (by omega) (keep hst.1 hst.2 j hj) 0
    · rw [uI_n (by omega)]; exact hst.2
  · rw [if_neg (show ¬ nI 1 = 0 by decide), if_pos (show nI 1 = 1 from rfl), lt_eq, if_neg (show ¬ 255 < nI i from nI_nlt (a := 255) (by omega) (by omega)), me_unset' hx ha]
    refine ⟨_, _, rfl, rfl, ?_⟩
    refine (itN_inv2 (fun s u => SI z B (n + 2) i N t c0 m0 s u ∧ s.1 (B + 1) 5 = c5.1 (B + 1) 5) ⟨u2, rfl⟩ k (fun s u j hj hst => ⟨?_, ?_⟩)).1
    · exact SI_ub hst.1 (by omega) (keep hst.1 hst.2 j hj) (256 + nI i)
    · show (ub B s (a + j) (256 + nI i)).1 (B + 1) 5 = _
      unfold ub; rw [pB_n (by omega), uI_o (by omega), uI_n (by omega)]; exact hst.2
  · rw [if_neg (show ¬ nI 2 = 0 by decide), if_neg (show ¬ nI 2 = 1 by decide), me_setAs hx ha]
    refine ⟨_, _, rfl, rfl, ?_⟩
    refine (itN_inv2 (fun s u => SI z B (n + 2) i N t c0 m0 s u ∧ s.1 (B + 1) 5 = c5.1 (B + 1) 5) ⟨u2, rfl⟩ k (fun s u j hj hst => ⟨?_, ?_⟩)).1
    · exact SI_st hst.1 (by omega) (keep hst.1 hst.2 j hj)
    · show (stC B s (a + j)).1 (B + 1) 5 = _
      unfold stC; rw [pB_n (by omega), uI_n (by omega)]; exact hst.2
/-! looking -/
def db (B : Nat) (c : St) (a i : Nat) : Prop := c.1 (B + 5) (a + i) = 0 ∨ c.1 (B + 3) (a + i) ≠ 0
theorem me_db {B : Nat} {c : St} {x : Int32} {a k : Nat} (hk : k ≤ 256) (hx : k = 0 ∨ x = nI a) (ha : a + k ≤ 4096) :
    ((∀ i, i < k → ¬ db B c a i) ∧ f_Me_firstDoubtful B x (nI k) c = some (-1)) ∨ (∃ i, i < k ∧ db B c a i ∧ (∀ j, j < i → ¬ db B c a j) ∧ f_Me_firstDoubtful B x (nI k) c = some (nI (a + i))) := by
  have st : ∀ i, i < k → (db B c a i → f_Me_firstDoubtful_L2 B x (nI k) (nI i) c = some (.inr (.inr (nI (a + i))))) ∧ (¬ db B c a i → f_Me_firstDoubtful_L2 B x (nI k) (nI i) c = some (.inl (nI (i + 1)))) := by
    intro i hi
    have e : f_Me_firstDoubtful_L2 B x (nI k) (nI i) c = if c.1 (B + 5) (a + i) = 0 then some (.inr (.inr (nI (a + i)))) else if c.1 (B + 3) (a + i) = 0 then some (.inl (nI (i + 1))) else some (.inr (.inr (nI (a + i)))) := by
      unfold f_Me_firstDoubtful_L2
      rw [if_neg (nI_ge hi (by omega)), hx.resolve_left (by omega), nI_add, me_isByte (by omega), if_neg (by decide), gd_nI (by omega) (by omega), gd_nI (by omega) (by omega), nI_clamp (by omega), nI_1]
    rw [e]
    unfold db
    by_cases h5 : c.1 (B + 5) (a + i) = 0
    · simp [h5]
    · by_cases h3 : c.1 (B + 3) (a + i) = 0 <;> simp [h5, h3]
  have hw := wh_search (f := fun a : Int32 => f_Me_firstDoubtful_L2 B x (nI k) a c) (n := k) (db B c a) (fun i => nI (a + i))
    (by show f_Me_firstDoubtful_L2 B x (nI k) (nI k) c = _; unfold f_Me_firstDoubtful_L2; rw [if_pos (nI_le (Nat.le_refl _) (by omega))])
    (fun i hi hp => (st i hi).1 hp) (fun i hi hp => (st i hi).2 hp) 0 (by omega)
  unfold f_Me_firstDoubtful
  rw [nI_0] at hw
  rcases hw with ⟨h1, h2⟩ | ⟨i, _, h2, h3, h4, h5⟩
  · exact .inl ⟨fun i hi => h1 i (by omega) hi, by rw [h2]; rfl⟩
  · exact .inr ⟨i, h2, h3, fun j hj => h4 j (by omega) hj, by rw [h5]; rfl⟩
theorem mo_db {z B : Nat} {c0 m0 c m : St} (h : RB z B c0 m0 c m) {v1 x : Int32} {a : Nat} {r : Int32} : ∀ k v4, (k = 0 ∨ x = nI a) → a + k ≤ 4096 → (((∀ i, i < k → ¬ db B c a i) ∧ r = v4) ∨ (∃ i, i < k ∧ db B c a i ∧ (∀ j, j < i → ¬ db B c a j) ∧ r = nI (a + i))) →
    wh (fun q : Int32 × Int32 => f_Mo_look_L82 v1 x q.1 q.2 m) (v4, nI k - 1) = some (r, nI 0 - 1)
  | 0, v4, _, _, hr => by
    have : r = v4 := by
      rcases hr with ⟨_, h⟩ | ⟨i, hi, _⟩
      · exact h
      · omega
    rw [this]
    exact wh_inr (by dsimp only; unfold f_Mo_look_L82; rw [if_pos (by decide)])
  | k + 1, v4, hx, ha, hr => by
    have hz := RB_zb h
    have e1 := hx.resolve_left (by omega)
    obtain ⟨_, r1, _, r3⟩ := RB_mem h (show a + k < 4096 by omega)
    have e : f_Mo_look_L82 v1 x v4 (nI (k + 1) - 1) m = if c.1 (B + 5) (a + k) = 0 then some (.inl (nI (a + k), nI k - 1)) else if c.1 (B + 3) (a + k) = 0 then some (.inl (v4, nI k - 1)) else some (.inl (nI (a + k), nI k - 1)) := by
      unfold f_Mo_look_L82 f_Mo_look_J129_1 f_Mo_look_J135_1
      rw [nI_pred, if_neg (nI_pos (by omega)), RB_z h, e1, ix4096, nI_add, nI_add, Nat.add_assoc, gd_nI (by omega) (by omega), gd_nI (by omega) (by omega), nI_clamp (by omega), r1, r3, nI_pred']
      rfl
    by_cases hd : db B c a k
    · have e2 : f_Mo_look_L82 v1 x v4 (nI (k + 1) - 1) m = some (.inl (nI (a + k), nI k - 1)) := by
        rw [e]
        by_cases h5 : c.1 (B + 5) (a + k) = 0
        · rw [if_pos h5]
        · rw [if_neg h5, if_neg (hd.resolve_left h5)]
      rw [wh_inl (by dsimp only; exact e2)]
      refine mo_db h k (nI (a + k)) (.inr e1) (by omega) ?_
      rcases hr with ⟨h1, _⟩ | ⟨i, hi, h1, h2, h3⟩
      · exact absurd hd (h1 k (by omega))
      · by_cases ei : i = k
        · subst ei; exact .inl ⟨h2, h3⟩
        · exact .inr ⟨i, by omega, h1, h2, h3⟩
    · have e2 : f_Mo_look_L82 v1 x v4 (nI (k + 1) - 1) m = some (.inl (v4, nI k - 1)) := by
        rw [e]
        rw [if_neg (fun h => hd (.inl h)), if_pos (Classical.byContradiction (fun h => hd (.inr h)))]
      rw [wh_inl (by dsimp only; exact e2)]
      refine mo_db h k v4 (.inr e1) (by omega) ?_
      rcases hr with ⟨h1, h2⟩ | ⟨i, hi, h1, h2, h3⟩
      · exact .inl ⟨fun i hi => h1 i (by omega), h2⟩
      · by_cases ei : i = k
        · subst ei; exact absurd h1 hd
        · exact .inr ⟨i, by omega, h1, h2, h3⟩
theorem o_look {z B n i N P b : Nat} {t : Int32} {c0 m0 c m : St} (h : SI z B n i N t c0 m0 c m) (hX : PX B P b i N 50 c0 m0) (he : c.1 B 11 = 0) :
    ∃ c' m', f_Ma_look B c = some c' ∧ f_Mo_look (nI (600 * b + 3 * i)) m = some m' ∧ SI z B (n + 2) i N t c0 m0 c' m' := by
  obtain ⟨r, hr⟩ := PX_R hX (j := 0) (by omega) rfl
  obtain ⟨ra, hra⟩ := PX_R hX (j := 1) (by omega) rfl
  have hkb := PX_E hX (j := 2) (by omega) rfl
  obtain ⟨va, sa, oa, na, ea, xa, ya, za, _⟩ := rd_t h hX (by omega) hra (B + 34) (w := 1) rfl (x := nI (600 * b + 3 * i) + 1) (nI_1 _)
  have h1 := SI_ab h (k := B + 34) (.inl rfl) (v := va) (s := sa) (o := oa)
  obtain ⟨vb, sb, ob, nb, eb, xb, yb, zb⟩ := rd_e h1 hX (by omega) hkb (B + 35) (w := 2) rfl (x := nI (600 * b + 3 * i) + 2) (nI_add _ 2)
  have h2 := SI_ab h1 (k := B + 35) (.inr rfl) (v := vb) (s := sb) (o := ob)
  have ha0 : (dP (dP c (B + 34) va sa oa) (B + 35) vb sb ob).1 (B + 34) 0 = va := by rw [dP_n0 (by omega), dP_0]
  have ha1 : (dP (dP c (B + 34) va sa oa) (B + 35) vb sb ob).1 (B + 34) 1 = sa := by rw [dP_n0 (by omega), dP_1]
  have ha2 : (dP (dP c (B + 34) va sa oa) (B + 35) vb sb ob).1 (B + 34) 2 = oa := by rw [dP_n0 (by omega), dP_2' na]
  have hb0 : (dP (dP c (B + 34) va sa oa) (B + 35) vb sb ob).1 (B + 35) 0 = vb := dP_0
  have hb1 : (dP (dP c (B + 34) va sa oa) (B + 35) vb sb ob).1 (B + 35) 1 = sb := dP_1
  have hb2 : (dP (dP c (B + 34) va sa oa) (B + 35) vb sb ob).1 (B + 35) 2 = ob := dP_2' nb
  have he2 : (dP (dP c (B + 34) va sa oa) (B + 35) vb sb ob).1 B 11 = 0 := by rw [dP_n0 (by omega), dP_n0 (by omega)]; exact he
  have eC0 : f_Ma_look B c = (f_Ma_reportShade B (B + 34) 2 (dP (dP c (B + 34) va sa oa) (B + 35) vb sb ob)).bind fun q5 => (f_Ma_reportShade B (B + 35) 5 q5).bind fun q7 => if (f_Ma_isRange (q7.1 (B + 34) 0) (q7.1 (B + 35) 0)) = 0 then ((f_Ma_trap B 4 q7).bind fun q16 => some q16) else (f_Ma_operand B 0 q7).bind fun q10 => (f_Me_firstDoubtful B (q7.1 (B + 34) 0) (q7.1 (B + 35) 0) q7).bind fun q12 => (f_Ma_give B q10 q12 0 0 q7).bind fun q14 => some q14 := by
    unfold f_Ma_look
    rw [ea, Option.bind_some, eb, Option.bind_some]
  rw [eC0]
  generalize dP (dP c (B + 34) va sa oa) (B + 35) vb sb ob = c2 at h2 ha0 ha1 ha2 hb0 hb1 hb2 he2
  obtain ⟨c3, m3, f1, f2, f3, f4⟩ := S_rep h2 (B + 34) 2 ha1 ha2
  have k35 : c3.1 (B + 35) = c2.1 (B + 35) := f4.1 _ (by omega)
  obtain ⟨c4, m4, g1, g2, g3, g4⟩ := S_rep f3 (B + 35) 5 (s := sb) (o := ob) (by rw [k35]; exact hb1) (by rw [k35]; exact hb2)
  have k35' : c4.1 (B + 35) = c2.1 (B + 35) := (g4.1 _ (by omega)).trans k35
  have k34' : c4.1 (B + 34) = c2.1 (B + 34) := (g4.1 _ (by omega)).trans (f4.1 _ (by omega))
  have he4 : c4.1 B 11 = 0 := by rw [g4.1 B (by omega), f4.1 B (by omega)]; exact he2
  have eM : f_Mo_look (nI (600 * b + 3 * i)) m = f_Mo_look_J60 (nI (600 * b + 3 * i)) va vb m4 := by
    unfold f_Mo_look
    rw [xa, Option.bind_some, xb, Option.bind_some, ya, Option.bind_some, za]
    simp only [Option.bind_some]
    refine (f2 (fun q => f_Mo_look_J38 (nI (600 * b + 3 * i)) va vb q)).trans ?_
    unfold f_Mo_look_J38
    rw [(NT_rd f4 _).2.1, yb, (NT_rd f4 _).2.2, zb]
    simp only [Option.bind_some]
    exact g2 (fun q => f_Mo_look_J60 (nI (600 * b + 3 * i)) va vb q)
  rw [eM, f1, Option.bind_some, g1, Option.bind_some, k35', hb0, k34', ha0, rng_eq]
  unfold f_Mo_look_J60
  by_cases d3 : f_Mo_areIn va vb = 0
  · rw [if_pos d3, if_pos d3]
    obtain ⟨c5, m5, u1, u2, u3⟩ := S_trap g3 he4 (v := 4) (by omega)
    refine ⟨c5, m5, ?_, ?_, u3⟩
    · show (f_Ma_trap B (nI 4) c4).bind _ = _; rw [u1]; rfl
    · show (f_Mo_trap (nI 4) m4).bind _ = _; rw [u2]; rfl
  rw [if_neg d3, if_neg d3]
  obtain ⟨k, hk, rfl, a, hx, ha⟩ := rng_in d3
  obtain ⟨gg, ee, _⟩ := rd_5 g3 hX (j := 0) (by omega) (x := nI (600 * b + 3 * i)) rfl
  have fin : ∃ w, f_Me_firstDoubtful B va (nI k) c4 = some w ∧ wh (fun q : Int32 × Int32 => f_Mo_look_L82 (nI (600 * b + 3 * i)) va q.1 q.2 m4) (-1, nI k - 1) = some (w, nI 0 - 1) := by
    rcases me_db (B := B) (c := c4) hk hx ha with ⟨p1, p2⟩ | ⟨j, hj, p1, p2, p3⟩
    · exact ⟨-1, p2, mo_db g3.1 k (-1) hx ha (.inl ⟨p1, rfl⟩)⟩
    · exact ⟨nI (a + j), p3, mo_db g3.1 k (-1) hx ha (.inr ⟨j, hj, p1, p2, rfl⟩)⟩
  obtain ⟨w, p1, p2⟩ := fin
  obtain ⟨c5, m5, u1, u2, u3, _⟩ := S_give g3 he4 hr.1 w 0 0
  rw [(rd_R g3 hX (by omega) hr (v := 0) rfl).1, Option.bind_some, p1, Option.bind_some, u1, lt_eq, p2]
  simp only [Option.bind_some]
  rw [gg, ee, hr.2.2.1, u2]
  exact ⟨c5, m5, rfl, rfl, u3⟩
