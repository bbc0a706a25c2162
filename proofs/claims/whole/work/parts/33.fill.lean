/-! ===== filling, copying ===== -/
theorem cnt_in {v : Int32} (h : ¬ f_Ma_isCount v = 0) : ∃ k, k ≤ 256 ∧ v = nI k := by
  unfold f_Ma_isCount at h
  by_cases h1 : v < 0
  · rw [if_pos h1] at h; exact absurd rfl h
  · rw [if_neg h1] at h
    by_cases h2 : 256 < v
    · rw [if_pos h2] at h; exact absurd rfl h
    · exact nI_rngL (n := 256) (by decide) (Int32.not_lt.mp h1) (Int32.not_lt.mp h2)
theorem cnt_out {v : Int32} (h : f_Ma_isCount v = 0) : v < 0 ∨ 256 < v := by
  unfold f_Ma_isCount at h
  by_cases h1 : v < 0
  · exact .inl h1
  · rw [if_neg h1] at h
    by_cases h2 : 256 < v
    · exact .inr h2
    · rw [if_neg h2] at h; exact absurd h (by decide)
theorem cnt_n {k : Nat} (h : k ≤ 256) : ¬ f_Ma_isCount (nI k) = 0 := by
  unfold f_Ma_isCount
  rw [if_neg (nI_pos (by omega)), if_neg (show ¬ 256 < nI k from nI_nlt (a := 256) h (by omega))]; decide
theorem valid_a {B : Nat} {c : St} {x : Int32} {k : Nat} (h : k = 0 ∨ ∃ a, x = nI a ∧ a + k ≤ 4096 ∧ ∀ i, i < k → c.1 (B + 5) (a + i) ≠ 0) : ∃ a, (k = 0 ∨ x = nI a) ∧ a + k ≤ 4096 ∧ ∀ i, i < k → c.1 (B + 5) (a + i) ≠ 0 := by
  rcases h with rfl | ⟨a, h1, h2, h3⟩
  · exact ⟨0, .inl rfl, by omega, fun i hi => by omega⟩
  · exact ⟨a, .inr h1, h2, h3⟩
theorem me_repeat {B k1 : Nat} {c : St} {x : Int32} {a k : Nat} {v s o : Int32} (hx : k = 0 ∨ x = nI a) (ha : a + k ≤ 4096) (h1 : k1 < B + 2 ∨ B + 4 < k1) (e0 : c.1 k1 0 = v) (e1 : c.1 k1 1 = s) (e2 : c.1 k1 2 = o) : f_Me_repeat B k1 x (nI k) c = some (itN (fun t x => pB B t x v s o) c a k) := by
  have hw := wh_it (L := fun q : Int32 × St => f_Me_repeat_L3 B k1 x (nI k) q.1 q.2) (f := fun t x => pB B t x v s o) (s := c) (a := a) 0 k (fun t => t.1 k1 = c.1 k1) rfl
    (fun t i hi ht => ⟨by
      dsimp only
      unfold f_Me_repeat_L3
      rw [Nat.zero_add, if_neg (nI_ge hi (by omega)), ht, e0, e1, e2, hx.resolve_left (by omega), nI_add, me_put (by omega), nI_1]
      rfl, by rw [pB_n h1]; exact ht⟩)
    (fun t _ => by
      dsimp only
      unfold f_Me_repeat_L3
      rw [Nat.zero_add, if_pos (nI_le (Nat.le_refl _) (by omega))])
  unfold f_Me_repeat
  rw [← nI_0, hw.1]
  rfl
theorem mo_there1 {z : Nat} {m : St} {a : Nat} (hz : m.1 0 28 = nI z) (h2 : z < 2) (ha : a < 4096) (ho : m.1 19 (4096 * z + a) ≠ 0) : f_Mo_areThere (nI a) (nI 1) m = some (1, m) := by
  have e : f_Mo_isThere (nI a) m = some 1 := by
    unfold f_Mo_isThere
    rw [if_neg (nI_pos (by omega)), if_neg (show ¬ (4096 : Int32) ≤ nI a from nI_ge (b := 4096) ha (by decide)), hz, ix4096, gd_nI (by omega) (by omega), nI_clamp (by omega), if_neg ho]
  have s0 : f_Mo_areThere_L2 (nI a) (nI 1) (nI 0) m = some (.inl (nI 1)) := by
    unfold f_Mo_areThere_L2
    rw [if_neg (by decide), nI_add, Nat.add_zero, e, Option.bind_some, if_neg (by decide), nI_1]
  have s1 : f_Mo_areThere_L2 (nI a) (nI 1) (nI 1) m = some (.inr (.inl (nI 1))) := by
    unfold f_Mo_areThere_L2
    rw [if_pos (by decide)]
  unfold f_Mo_areThere
  rw [← nI_0, wh_inl s0, wh_inr s1]
  rfl
theorem shv0 (v : Int32) : shv v 0 = v := by
  unfold shv
  rw [show (8 * nI 0 : Int32).toUInt32 &&& Int32.toUInt32 31 = 0 by decide]
  apply Int32.toBitVec_inj.mp
  show v.toBitVec >>> (0 : Nat) = v.toBitVec
  exact BitVec.ushiftRight_zero v.toBitVec
theorem mo_fillL {z B n i N P b o : Nat} {t : Int32} {c0 m0 c m : St} (h : SI z B n i N t c0 m0 c m) (hX : PX B P b i N o c0 m0) {x : Int32} {a k : Nat} (hk : k ≤ 256) (hx : k = 0 ∨ x = nI a) (ha : a + k ≤ 4096) (ho : ∀ i, i < k → m.1 19 (4096 * z + (a + i)) ≠ 0) {v s og : Int32} (e1 : f_Mo_value (nI (600 * b + 3 * i) + 1) m = some v) (e2 : f_Mo_shade (nI (600 * b + 3 * i) + 1) m = some s) (e3 : f_Mo_origin (nI (600 * b + 3 * i) + 1) m = some og) :
    wh (fun q : Int32 × St => f_Mo_fill_L84 (nI (600 * b + 3 * i)) (nI k) x q.1 q.2) (0, m) = some (nI k, itN (fun t y => mB z t y (v &&& 255) (s &&& 255) og) m a k) := by
  have hz := RB_zb h.1
  have hw := wh_it (L := fun q : Int32 × St => f_Mo_fill_L84 (nI (600 * b + 3 * i)) (nI k) x q.1 q.2) (f := fun t y => mB z t y (v &&& 255) (s &&& 255) og) (s := m) (a := a) 0 k (fun t => (∀ k, k < 16 ∨ 18 < k → t.1 k = m.1 k)) (fun _ _ => rfl)
    (fun t i' hi ht => ⟨by
      dsimp only
      have r : f_Mo_value (nI (600 * b + 3 * i) + 1) t = some v ∧ f_Mo_shade (nI (600 * b + 3 * i) + 1) t = some s ∧ f_Mo_origin (nI (600 * b + 3 * i) + 1) t = some og := by
        rw [← e1, ← e2, ← e3]
        unfold f_Mo_value f_Mo_shade f_Mo_origin
        rw [ht 4 (by omega), ht 5 (by omega), ht 13 (by omega), ht 14 (by omega), ht 15 (by omega), ht 0 (by omega)]
        exact ⟨rfl, rfl, rfl⟩
      have hz2 : t.1 0 28 = nI z := by rw [ht 0 (by omega)]; exact RB_z h.1
      have hth := mo_there1 (m := t) (a := a + i') hz2 hz (by omega) (by rw [ht 19 (by omega)]; exact ho i' hi)
      have hst := mo_store (v := v) (s := s) (o := og) hz2 hz (show 1 ≤ 4 by omega) (show a + i' + 1 ≤ 4096 by omega) hth
      unfold f_Mo_fill_L84
      rw [Nat.zero_add, if_neg (nI_ge hi (by omega)), r.1, r.2.1, r.2.2, hx.resolve_left (by omega), nI_add]
      simp only [Option.bind_some]
      rw [show (1 : Int32) = nI 1 from rfl, hst]
      show some (Sum.inl (nI i' + nI 1, mB z t (a + i' + 0) (shv v (a + i' + 0 - (a + i')) &&& 255) (shv s (a + i' + 0 - (a + i')) &&& 255) og)) = _
      rw [Nat.add_zero, Nat.sub_self, shv0, shv0, nI_add], fun k hk => by rw [mB_n hk]; exact ht k hk⟩)
    (fun t _ => by
      dsimp only
      unfold f_Mo_fill_L84
      rw [Nat.zero_add, if_pos (nI_le (Nat.le_refl _) (by omega))])
  have := hw.1
  rw [nI_0, Nat.zero_add] at this
  exact this
theorem o_fill {z B n i N P b : Nat} {t : Int32} {c0 m0 c m : St} (h : SI z B n i N t c0 m0 c m) (hX : PX B P b i N 46 c0 m0) (he : c.1 B 11 = 0) :
    ∃ c' m', f_Ma_fillBytes B c = some c' ∧ f_Mo_fill (nI (600 * b + 3 * i)) m = some m' ∧ SI z B (n + 3) i N t c0 m0 c' m' := by
  obtain ⟨r, hr⟩ := PX_R hX (j := 0) (by omega) rfl
  obtain ⟨ra, hra⟩ := PX_R hX (j := 1) (by omega) rfl
  have hkb := PX_E hX (j := 2) (by omega) rfl
  have hr8 := hr.1
  obtain ⟨_, q2, q3⟩ := rd_R h hX (by omega) hr (v := 0) rfl
  obtain ⟨x1, x2, x3⟩ := rd_m h hX (by omega) hr (x := nI (600 * b + 3 * i)) rfl
  obtain ⟨va, sa, oa, na, ea, xa, ya, za, _⟩ := rd_t h hX (by omega) hra (B + 34) (w := 1) rfl (x := nI (600 * b + 3 * i) + 1) (nI_1 _)
  have h1 := SI_ab h (k := B + 34) (.inl rfl) (v := va) (s := sa) (o := oa)
  obtain ⟨vb, sb, ob, nb, eb, xb, yb, zb⟩ := rd_e h1 hX (by omega) hkb (B + 35) (w := 2) rfl (x := nI (600 * b + 3 * i) + 2) (nI_add _ 2)
  have h2 := SI_ab h1 (k := B + 35) (.inr rfl) (v := vb) (s := sb) (o := ob)
  have ha0 : (dP (dP c (B + 34) va sa oa) (B + 35) vb sb ob).1 (B + 34) 0 = va := by rw [dP_n0 (by omega), dP_0]
  have ha1 : (dP (dP c (B + 34) va sa oa) (B + 35) vb sb ob).1 (B + 34) 1 = sa := by rw [dP_n0 (by omega), dP_1]
  have ha2 : (dP (dP c (B + 34) va sa oa) (B + 35) vb sb ob).1 (B + 34) 2 = oa := by rw [dP_n0 (by omega), dP_2' na]
  have hb0 : (dP (dP c (B + 34) va sa oa) (B + 35) vb sb ob).1 (B + 35) 0 = vb := dP_0
  have hb1 : (dP (dP c (B + 34) va sa oa) (B + 35) vb sb ob).1 (B + 35) 1 = sb := dP_1
  have hb2 : (dP (dP c (B + 34) va sa oa) (B + 35) vb sb ob).1 (B + 35) 2 = ob := dP_2' nb
  have hrr : ∀ j, (dP (dP c (B + 34) va sa oa) (B + 35) vb sb ob).1 (B + 26 + r) j = c.1 (B + 26 + r) j := fun j => by rw [dP_n0 (by omega), dP_n0 (by omega)]
  have he2 : (dP (dP c (B + 34) va sa oa) (B + 35) vb sb ob).1 B 11 = 0 := by rw [dP_n0 (by omega), dP_n0 (by omega)]; exact he
  have q4 := (rd_R h2 hX (by omega) hr (v := 0) rfl).2.1
  have eC0 : f_Ma_fillBytes B c = (f_Ma_reportShade B (B + 26 + r) 2 (dP (dP c (B + 34) va sa oa) (B + 35) vb sb ob)).bind fun q12 => (f_Ma_reportShade B (B + 35) 5 q12).bind fun q14 => if (f_Ma_isCount (q14.1 (B + 35) 0)) = 0 then ((f_Ma_trap B 4 q14).bind fun q22 => some q22) else (f_Ma_isValid B (c.1 (B + 26 + r) 0) (q14.1 (B + 35) 0) q14).bind fun q17 => if q17.1 = 0 then some (q17.2) else (f_Me_repeat B (B + 34) (c.1 (B + 26 + r) 0) (q17.2.1 (B + 35) 0) (q17.2)).bind fun q20 => some q20 := by
    unfold f_Ma_fillBytes
    rw [q2, Option.bind_some, if_pos q3, lt_eq, ea, Option.bind_some, eb, Option.bind_some, q4, Option.bind_some, if_pos q3]
  rw [eC0]
  generalize dP (dP c (B + 34) va sa oa) (B + 35) vb sb ob = c2 at h2 ha0 ha1 ha2 hb0 hb1 hb2 he2 hrr
  obtain ⟨c3, m3, f1, f2, f3, f4⟩ := S_rep h2 (B + 26 + r) 2 (hrr 1) (hrr 2)
  have k35 : c3.1 (B + 35) = c2.1 (B + 35) := f4.1 _ (by omega)
  obtain ⟨c4, m4, g1, g2, g3, g4⟩ := S_rep f3 (B + 35) 5 (s := sb) (o := ob) (by rw [k35]; exact hb1) (by rw [k35]; exact hb2)
  have k35' : c4.1 (B + 35) = c2.1 (B + 35) := (g4.1 _ (by omega)).trans k35
  have k34' : c4.1 (B + 34) = c2.1 (B + 34) := (g4.1 _ (by omega)).trans (f4.1 _ (by omega))
  have he4 : c4.1 B 11 = 0 := by rw [g4.1 B (by omega), f4.1 B (by omega)]; exact he2
  have eM : f_Mo_fill (nI (600 * b + 3 * i)) m = f_Mo_fill_J48 (nI (600 * b + 3 * i)) vb m4 := by
    unfold f_Mo_fill
    rw [xb, x2, x3]
    simp only [Option.bind_some]
    refine (f2 (fun q => f_Mo_fill_J26 (nI (600 * b + 3 * i)) vb q)).trans ?_
    unfold f_Mo_fill_J26
    rw [(NT_rd f4 _).2.1, yb, (NT_rd f4 _).2.2, zb]
    simp only [Option.bind_some]
    exact g2 (fun q => f_Mo_fill_J48 (nI (600 * b + 3 * i)) vb q)
  rw [eM, f1, Option.bind_some, g1, Option.bind_some, k35', hb0]
  have NT24 := NT_tr f4 g4
  have w1 : f_Mo_value (nI (600 * b + 3 * i)) m4 = some (c.1 (B + 26 + r) 0) := by rw [(NT_rd NT24 _).1]; exact x1
  have w2 : f_Mo_value (nI (600 * b + 3 * i) + 1) m4 = some va := by rw [(NT_rd NT24 _).1]; exact xa
  have w3 : f_Mo_shade (nI (600 * b + 3 * i) + 1) m4 = some sa := by rw [(NT_rd NT24 _).2.1]; exact ya
  have w4 : f_Mo_origin (nI (600 * b + 3 * i) + 1) m4 = some oa := by rw [(NT_rd NT24 _).2.2]; exact za
  unfold f_Mo_fill_J48 f_Mo_fill_J59
  by_cases hc : f_Ma_isCount vb = 0
  · obtain ⟨c5, m5, u1, u2, u3⟩ := S_trap g3 he4 (v := 4) (by omega)
    rw [if_pos hc]
    refine ⟨c5, m5, ?_, ?_, SI_mono u3 (by omega)⟩
    · show (f_Ma_trap B (nI 4) c4).bind _ = _; rw [u1]; rfl
    · have tr : ((f_Mo_trap 4 m4).bind fun q10 => some q10) = some m5 := by show (f_Mo_trap (nI 4) m4).bind _ = _; rw [u2]; rfl
      rcases cnt_out hc with g | g
      · rw [if_pos g]; exact tr
      · by_cases g0 : vb < 0
        · rw [if_pos g0]; exact tr
        · rw [if_neg g0, if_neg (Int32.not_le.mpr g)]; exact tr
  · obtain ⟨k, hk, rfl⟩ := cnt_in hc
    rw [if_neg hc, if_neg (nI_pos (by omega)), if_pos (show nI k ≤ 256 from nI_le (b := 256) hk (by decide)), w1, Option.bind_some]
    rcases S_valid g3 (c.1 (B + 26 + r) 0) (k := k) hk with ⟨hv, u1, u2⟩ | ⟨c5, m5, u1, u2, u3, u4⟩
    · obtain ⟨a, hx, ha, ho⟩ := valid_a hv
      have ho' : ∀ i, i < k → m4.1 19 (4096 * z + (a + i)) ≠ 0 := fun i hi => by rw [← (RB_mem g3.1 (show a + i < 4096 by omega)).2.2.2]; exact ho i hi
      have hrep := me_repeat (B := B) (k1 := B + 34) (c := c4) (v := va) (s := sa) (o := oa) hx ha (by omega) (by rw [k34']; exact ha0) (by rw [k34']; exact ha1) (by rw [k34']; exact ha2)
      rw [u1, u2]
      simp only [Option.bind_some]
      rw [if_neg (by decide), if_neg (by decide), k35', hb0, hrep, mo_fillL g3 hX hk hx ha ho' w2 w3 w4]
      refine ⟨_, _, rfl, rfl, ?_⟩
      exact itN_inv2 (fun s t' => SI z B (n + 3) i N t c0 m0 s t') (SI_mono g3 (by omega)) k (fun s' t' i' hi' hst => SI_pB hst (by omega) _ _ _)
    · rw [u1, u2]
      simp only [Option.bind_some]
      rw [if_pos trivial, if_pos trivial]
      exact ⟨c5, m5, rfl, rfl, SI_mono u3 (by omega)⟩
