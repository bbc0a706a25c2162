/-! ===== growing ===== -/
theorem mo_growL {z B n i N : Nat} {t : Int32} {c0 m0 c m : St} (h : SI z B n i N t c0 m0 c m) {x1 x4 x5 : Int32} {a1 a2 k : Nat} (h1 : a1 + k ≤ 4096) (h2 : a2 + k ≤ 4096) (hd : a1 + k ≤ a2 ∨ a2 + k ≤ a1) :
    wh (fun q : Int32 × St => f_Mo_grow_L203 x1 x4 x5 (nI k) (nI a1) (nI a2) q.1 q.2) (0, m) = some (nI k, itN (cvM B z c a1 a2) m a2 k) := by
  have hz := RB_zb h.1
  have hI := h.2.2.1
  have hw := wh_it (L := fun q : Int32 × St => f_Mo_grow_L203 x1 x4 x5 (nI k) (nI a1) (nI a2) q.1 q.2) (f := cvM B z c a1 a2) (s := m) (a := a2) 0 k (fun t' => ∀ q j, ¬ ((q = 16 ∨ q = 17 ∨ q = 18) ∧ 4096 * z + a2 ≤ j ∧ j < 4096 * z + a2 + k) → t'.1 q j = m.1 q j) (fun _ _ _ => rfl)
    (fun t' l hl ht => ⟨by
      dsimp only
      obtain ⟨r0, r1, r2, _⟩ := RB_mem h.1 (show a1 + l < 4096 by omega)
      have n0 := (hI (a1 + l) (by omega)).2
      have hz2 : t'.1 0 28 = nI z := by rw [ht 0 28 (by omega)]; exact RB_z h.1
      have t16 : t'.1 16 (4096 * z + (a1 + l)) = c.1 (B + 2) (a1 + l) := by rw [ht 16 _ (by omega), r0]
      have t17 : t'.1 17 (4096 * z + (a1 + l)) = c.1 (B + 3) (a1 + l) := by rw [ht 17 _ (by omega), r1]
      have t18 : t'.1 18 (4096 * z + (a1 + l)) = c.1 (B + 4) (a1 + l) := by rw [ht 18 _ (by omega), r2]
      unfold f_Mo_grow_L203 f_Mo_grow_J349_1 cvM
      rw [Nat.zero_add, if_neg (nI_ge hl (by omega)), hz2, ix4096, nI_add, ix4096, nI_add, Nat.add_assoc, Nat.add_assoc, show a2 + l - a2 = l by omega]
      have q1 : ∀ {β : Type} (q : Option β), gd (nI (4096 * z + (a1 + l))) 8192 q = q := fun q => gd_nI (by omega) (by omega)
      have q2 : ∀ {β : Type} (q : Option β), gd (nI (4096 * z + (a2 + l))) 8192 q = q := fun q => gd_nI (by omega) (by omega)
      have c1 : (nI (4096 * z + (a1 + l))).toNatClampNeg = 4096 * z + (a1 + l) := nI_clamp (by omega)
      have c2 : (nI (4096 * z + (a2 + l))).toNatClampNeg = 4096 * z + (a2 + l) := nI_clamp (by omega)
      rw [q1, q2, c1, c2, t16, lt_eq, uI_n (show (0 : Nat) ≠ 16 by omega), hz2, ix4096, nI_add, ix4096, nI_add, Nat.add_assoc, Nat.add_assoc, q1, q2, c1, c2, uI_n (show (17 : Nat) ≠ 16 by omega), t17, lt_eq]
      rw [uI_n (show (0 : Nat) ≠ 17 by omega), uI_n (show (0 : Nat) ≠ 16 by omega), hz2, ix4096, nI_add, ix4096, nI_add, Nat.add_assoc, Nat.add_assoc, q1, q1, q2, q2, c1, c2, uI_o (show ¬ ((17 : Nat) = 17 ∧ 4096 * z + (a1 + l) = 4096 * z + (a2 + l)) by omega), uI_n (show (17 : Nat) ≠ 16 by omega), t17, uI_n (show (18 : Nat) ≠ 17 by omega), uI_n (show (18 : Nat) ≠ 16 by omega), t18, lt_eq, lt_eq, nI_1]
      by_cases g : c.1 (B + 3) (a1 + l) = 0
      · rw [if_pos g, n0 g]
      · rw [if_neg g], fun q j hq => by
        unfold cvM
        rw [uI_o (by omega), uI_o (by omega), uI_o (by omega)]; exact ht q j hq⟩)
    (fun t' _ => by
      dsimp only
      unfold f_Mo_grow_L203
      rw [Nat.zero_add, if_pos (nI_le (Nat.le_refl _) (by omega))])
  have := hw.1
  rw [nI_0, Nat.zero_add] at this
  exact this
theorem cvC_n {B : Nat} {c t : St} {a1 a2 x q : Nat} (h : q < B + 2 ∨ B + 4 < q) : (cvC B c a1 a2 t x).1 q = t.1 q := by
  unfold cvC; rw [uI_n (by omega), uI_n (by omega), uI_n (by omega)]
theorem cvM_n {B z : Nat} {c t : St} {a1 a2 x q : Nat} (h : q < 16 ∨ 18 < q) : (cvM B z c a1 a2 t x).1 q = t.1 q := by
  unfold cvM; rw [uI_n (by omega), uI_n (by omega), uI_n (by omega)]
theorem S_grow2 {z B n i N P b o : Nat} {t : Int32} {c0 m0 c m : St} (h : SI z B n i N t c0 m0 c m) (hX : PX B P b i N o c0 m0) {r : Nat} (hr : kR c0 m0 P b i 0 r) (he : c.1 B 11 = 0) {k qs qe : Nat} {F S C W Q : Nat → Nat} (hH : HX z B c m k qs qe F S C W Q) {vb : Int32} (hb : c.1 (B + 35) 0 = vb) {ov : Nat} (hov : ov = 0 ∨ (1 ≤ ov ∧ ov ≤ k ∧ C ov = 2 ∧ c.1 (B + 34) 0 = nI (1032 + 8 * F ov))) :
    ∃ c' m', f_Ma_grow_J81 B (nI ov) 0 c = some c' ∧ f_Mo_grow_J109 (nI (600 * b + 3 * i)) vb (nI ov) m = some m' ∧ SI z B n i N t c0 m0 c' m' := by
  have hz := RB_zb h.1
  have hk := hH.2.1
  -- the gift at the end
  have fin : ∀ (c1 m1 : St) (a : Int32) (x : Int32), SI z B n i N t c0 m0 c1 m1 → c1.1 B = c.1 B → ((x ≤ 0 ∧ a = 0) ∨ (∃ k', 1 ≤ k' ∧ k' ≤ 100 ∧ x = nI k' ∧ m1.1 28 (101 * z + k') = a)) → ∃ c' m', f_Ma_grow_J150 B a c1 = some c' ∧ f_Mo_grow_J362 (nI (600 * b + 3 * i)) x m1 = some m' ∧ SI z B n i N t c0 m0 c' m' := by
    intro c1 m1 a x h1 hB hx
    obtain ⟨g5, e5, _⟩ := rd_5 h1 hX (j := 0) (by omega) (x := nI (600 * b + 3 * i)) rfl
    obtain ⟨c2, m2, u1, u2, u3, _⟩ := S_give h1 (by rw [hB]; exact he) hr.1 a 0 0
    refine ⟨c2, m2, ?_, ?_, u3⟩
    · unfold f_Ma_grow_J150
      rw [(rd_R h1 hX (by omega) hr (v := 0) rfl).1, Option.bind_some, u1]; rfl
    · unfold f_Mo_grow_J362 f_Mo_grow_J393
      rw [g5, e5, hr.2.2.1]
      rcases hx with ⟨q1, q2⟩ | ⟨k', q1, q2, q3, q4⟩
      · rw [q2] at u2; rw [if_pos q1, u2]; rfl
      · rw [q3, if_neg (nI_nle (by omega) (by omega)), RB_z h1.1, ix101, gd_nI (by omega) (by omega), nI_clamp (show 101 * z + k' < 2 ^ 31 by omega), q4, u2]; rfl
  unfold f_Ma_grow_J81 f_Mo_grow_J109
  rw [if_pos rfl, hb]
  rcases S_alloc0 h hH vb with ⟨e1, e2⟩ | ⟨s, f, c1, m1, rfl, e1, e2, hk2, hs, hf, e3, e4, e5, e6, e7⟩
  · rw [e1, e2, Option.bind_some, Option.bind_some]
    dsimp only
    unfold f_Ma_grow_J102
    rw [if_pos rfl, lt_eq, if_pos (by decide)]
    exact fin c m 0 0 h rfl (.inl ⟨by decide, rfl⟩)
  · have e28 : m1.1 28 (101 * z + (k + 1)) = nI (1032 + 8 * f) := by
      have := (HX_cells e3.1 e4 (j := k + 1) (by omega) (by omega)).1
      simp only [if_true] at this; exact this
    rw [e1, e2, Option.bind_some, Option.bind_some]
    dsimp only
    unfold f_Ma_grow_J102
    rw [if_neg (show ¬ nI (1032 + 8 * f) = 0 from nI_ne0 (by omega) (by omega)), lt_eq (nI (k + 1)), if_neg (show ¬ nI (k + 1) ≤ 0 from nI_nle (by omega) (by omega))]
    rcases hov with rfl | ⟨o1, o2, o3, o4⟩
    · rw [if_pos (show nI 0 = 0 from rfl), if_pos (by decide)]
      exact fin c1 m1 _ _ e3 (e6 B (by omega)) (.inr ⟨k + 1, by omega, by omega, rfl, e28⟩)
    · obtain ⟨x1, x2, x3, x4, x5, x6⟩ := hH.2.2.1 ov o1 o2
      have c8 := (e4.2.2.1 ov o1 (by omega)).2.1
      have m28 := (HX_cells e3.1 e4 (j := ov) o1 (by omega)).1
      have m29 := (HX_cells e3.1 e4 (j := ov) o1 (by omega)).2.1
      simp only [if_neg (show ¬ ov = k + 1 by omega)] at c8 m28 m29
      obtain ⟨mn, hmn⟩ : ∃ mn, mn = min s (S ov) := ⟨_, rfl⟩
      have hdis : F ov + (2 + (S ov + 7) / 8) ≤ f ∨ f + (2 + (s + 7) / 8) ≤ F ov := by
        rcases (ft_fr hH (by omega) hf).mp e5 ov o1 o2 with q | q | q
        · omega
        · exact .inr q
        · exact .inl q
      have emin : (if nI s < nI (S ov) then nI s else nI (S ov)) = nI mn := by
        by_cases q : s < S ov
        · rw [if_pos (nI_lt q (by omega)), hmn, Nat.min_eq_left (by omega)]
        · rw [if_neg (nI_nlt (by omega) (by omega)), hmn, Nat.min_eq_right (by omega)]
      have hmv := me_move (B := B) (c := c1) (x1 := nI (1032 + 8 * F ov)) (x2 := nI (1032 + 8 * f)) (a1 := 1032 + 8 * F ov) (a2 := 1032 + 8 * f) (k := mn) (.inr rfl) (.inr rfl) (by omega) (by omega)
      have hml := fun x1 x4 x5 => mo_growL e3 (x1 := x1) (x4 := x4) (x5 := x5) (a1 := 1032 + 8 * F ov) (a2 := 1032 + 8 * f) (k := mn) (by omega) (by omega) (by omega)
      have hS2 : SI z B n i N t c0 m0 (itN (cvC B c1 (1032 + 8 * F ov) (1032 + 8 * f)) c1 (1032 + 8 * f) mn) (itN (cvM B z c1 (1032 + 8 * F ov) (1032 + 8 * f)) m1 (1032 + 8 * f) mn) :=
        itN_inv2 (fun s u => SI z B n i N t c0 m0 s u) e3 mn (fun s' u l hl hst => SI_cv e3.2.2.1 hst (by omega) (by omega))
      have kc : ∀ q, q < B + 2 ∨ B + 4 < q → (itN (cvC B c1 (1032 + 8 * F ov) (1032 + 8 * f)) c1 (1032 + 8 * f) mn).1 q = c1.1 q := fun q hq => itN_keep _ (fun t x => cvC_n hq)
      have km : ∀ q, q < 16 ∨ 18 < q → (itN (cvM B z c1 (1032 + 8 * F ov) (1032 + 8 * f)) m1 (1032 + 8 * f) mn).1 q = m1.1 q := fun q hq => itN_keep _ (fun t x => cvM_n hq)
      have hH2 := HX_of (c' := itN (cvC B c1 (1032 + 8 * F ov) (1032 + 8 * f)) c1 (1032 + 8 * f) mn) (m' := itN (cvM B z c1 (1032 + 8 * F ov) (1032 + 8 * f)) m1 (1032 + 8 * f) mn) e4 (fun q _ _ => kc q (by omega)) (km _ (by omega)) (km _ (by omega))
      generalize itN (cvC B c1 (1032 + 8 * F ov) (1032 + 8 * f)) c1 (1032 + 8 * f) mn = c2 at hmv hS2 kc hH2
      generalize itN (cvM B z c1 (1032 + 8 * F ov) (1032 + 8 * f)) m1 (1032 + 8 * f) mn = m2 at hml hS2 km hH2
      obtain ⟨c3, m3, r1, r2, r3, r4, r5⟩ := S_freed hS2 hH2 o1 (show ov ≤ k + 1 by omega) (by simp only [if_neg (show ¬ ov = k + 1 by omega)]; exact o3)
      obtain ⟨c4, m4, u1, u2, u3⟩ := fin c3 m3 (nI (1032 + 8 * f)) (nI (k + 1)) r3 (by rw [r4 B (by omega), kc B (by omega)]; exact e6 B (by omega)) (.inr ⟨k + 1, by omega, by omega, rfl, by rw [r5 28 (by omega), km 28 (by omega)]; exact e28⟩)
      refine ⟨c4, m4, ?_, ?_, u3⟩
      · rw [if_neg (nI_ne0 (by omega) (by omega)), gd_nI (by omega) (by omega), nI_clamp (by omega), c8, e6 (B + 35) (by omega), hb, emin, lt_eq, e6 (B + 34) (by omega), o4, hmv, Option.bind_some, r1, Option.bind_some, u1]
      · rw [if_neg (nI_nle (by omega) (by omega)), RB_z e3.1, ix101, gd_nI (by omega) (by omega), gd_nI (by omega) (by omega), nI_clamp (show 101 * z + ov < 2 ^ 31 by omega), m29]
        have tail : f_Mo_grow_J164 (nI (600 * b + 3 * i)) (nI ov) (nI (k + 1)) (nI mn) m1 = some m4 := by
          unfold f_Mo_grow_J164
          rw [RB_z e3.1, ix101, ix101, gd_nI (by omega) (by omega), nI_clamp (show 101 * z + ov < 2 ^ 31 by omega), m28, lt_eq, gd_nI (by omega) (by omega), nI_clamp (show 101 * z + (k + 1) < 2 ^ 31 by omega), e28, lt_eq, hml, Option.bind_some]
          dsimp only
          rw [r2, Option.bind_some, u2]
        by_cases q : s ≤ S ov
        · rw [if_pos (nI_le q (by omega)), show nI s = nI mn by rw [hmn, Nat.min_eq_left q]]; exact tail
        · rw [if_neg (nI_ge (by omega) (by omega)), show nI (S ov) = nI mn by rw [hmn, Nat.min_eq_right (by omega)]]; exact tail
theorem o_grow {z B n i N P b : Nat} {t : Int32} {c0 m0 c m : St} (h : SI z B n i N t c0 m0 c m) (hX : PX B P b i N 43 c0 m0) (he : c.1 B 11 = 0) :
    ∃ c' m', f_Ma_grow B c = some c' ∧ f_Mo_grow (nI (600 * b + 3 * i)) m = some m' ∧ SI z B (n + 3) i N t c0 m0 c' m' := by
  obtain ⟨r, hr⟩ := PX_R hX (j := 0) (by omega) rfl
  obtain ⟨ra, hra⟩ := PX_R hX (j := 1) (by omega) rfl
  have hkb := PX_E hX (j := 2) (by omega) rfl
  obtain ⟨va, sa, oa, na, ea, xa, ya, za, _⟩ := rd_t h hX (by omega) hra (B + 34) (w := 1) rfl (x := nI (600 * b + 3 * i) + 1) (nI_1 _)
  have h1 := SI_ab h (k := B + 34) (.inl rfl) (v := va) (s := sa) (o := oa)
  obtain ⟨vb, sb, ob, nb, eb, xb, yb, zb⟩ := rd_e h1 hX (by omega) hkb (B + 35) (w := 2) rfl (x := nI (600 * b + 3 * i) + 2) (nI_add _ 2)
  have h2 := SI_ab h1 (k := B + 35) (.inr rfl) (v := vb) (s := sb) (o := ob)
  have ha0 : (dP (dP c (B + 34) va sa oa) (B + 35) vb sb ob).1 (B + 34) 0 = va := by rw [dP_n0 (by omega), dP_0]
  have ha1 : (dP (dP c (B + 34) va sa oa) (B + 35) vb sb ob).1 (B + 34) 1 = sa := by rw [dP_n0 (by omega), dP_1]
  have ha2 : (dP (dP c (B + 34) va sa oa) (B + 35) vb sb ob).1 (B + 34) 2 = oa := by rw [dP_n0 (by omega), dP_2' na]
  have hb0 : (dP (dP c (B + 34) va sa oa) (B + 35) vb sb ob).1 (B + 35) 0 = vb := dP_0
  have hb1 : (dP (dP c (B + 34) va sa oa) (B + 35) vb sb ob).1 (B + 35) 1 = sb := dP_1
  have hb2 : (dP (dP c (B + 34) va sa oa) (B + 35) vb sb ob).1 (B + 35) 2 = ob := dP_2' nb
  have he2 : (dP (dP c (B + 34) va sa oa) (B + 35) vb sb ob).1 B 11 = 0 := by rw [dP_n0 (by omega), dP_n0 (by omega)]; exact he
  have eC0 : f_Ma_grow B c = (f_Ma_reportShade B (B + 34) 2 (dP (dP c (B + 34) va sa oa) (B + 35) vb sb ob)).bind fun q5 => (f_Ma_reportShade B (B + 35) 5 q5).bind fun q7 => if (q7.1 (B + 34) 0) = 0 then f_Ma_grow_J61 B 0 q7 else (f_Ma_blockToFree B (q7.1 (B + 34) 0) q7).bind fun q10 => f_Ma_grow_J61 B (q10.1) (q10.2) := by
    unfold f_Ma_grow
    rw [ea, Option.bind_some, eb, Option.bind_some]
  rw [eC0]
  generalize dP (dP c (B + 34) va sa oa) (B + 35) vb sb ob = c2 at h2 ha0 ha1 ha2 hb0 hb1 hb2 he2
  obtain ⟨c3, m3, f1, f2, f3, f4⟩ := S_rep h2 (B + 34) 2 ha1 ha2
  have k35 : c3.1 (B + 35) = c2.1 (B + 35) := f4.1 _ (by omega)
  obtain ⟨c4, m4, g1, g2, g3, g4⟩ := S_rep f3 (B + 35) 5 (s := sb) (o := ob) (by rw [k35]; exact hb1) (by rw [k35]; exact hb2)
  have k35' : c4.1 (B + 35) 0 = vb := by rw [(g4.1 _ (by omega)).trans k35]; exact hb0
  have k34' : c4.1 (B + 34) 0 = va := by rw [(g4.1 _ (by omega)).trans (f4.1 _ (by omega))]; exact ha0
  have he4 : c4.1 B 11 = 0 := by rw [g4.1 B (by omega), f4.1 B (by omega)]; exact he2
  have eM : f_Mo_grow (nI (600 * b + 3 * i)) m = f_Mo_grow_J60 (nI (600 * b + 3 * i)) va vb m4 := by
    unfold f_Mo_grow
    rw [xa, Option.bind_some, xb, Option.bind_some, ya, Option.bind_some, za]
    simp only [Option.bind_some]
    refine (f2 (fun q => f_Mo_grow_J38 (nI (600 * b + 3 * i)) va vb q)).trans ?_
    unfold f_Mo_grow_J38
    rw [(NT_rd f4 _).2.1, yb, (NT_rd f4 _).2.2, zb]
    simp only [Option.bind_some]
    exact g2 (fun q => f_Mo_grow_J60 (nI (600 * b + 3 * i)) va vb q)
  rw [eM, f1, Option.bind_some, g1, Option.bind_some, k34']
  obtain ⟨k, qs, qe, F, S, C, W, Q, hH⟩ := g3.2.2.2.2.2.1
  have hk := hH.2.1
  unfold f_Mo_grow_J60 f_Mo_grow_J73
  by_cases g0 : va = 0
  · rw [if_pos g0, if_pos g0, if_pos g0]
    unfold f_Ma_grow_J61 f_Ma_grow_J80
    rw [k34', if_pos g0]
    obtain ⟨c5, m5, u1, u2, u3⟩ := S_grow2 g3 hX hr he4 hH k35' (ov := 0) (.inl rfl)
    exact ⟨c5, m5, u1, u2, SI_mono u3 (by omega)⟩
  · rw [if_neg g0, if_neg g0]
    rcases S_toFree g3 hH va with ⟨w, w1, w2, w3, w4, e1, e2⟩ | ⟨c5, m5, e1, e2, e3, e4, e5⟩
    · rw [e1, e2, Option.bind_some, Option.bind_some]
      dsimp only
      unfold f_Ma_grow_J61 f_Ma_grow_J80
      rw [k34', if_neg g0, if_neg g0, if_neg (nI_ne0 (by omega) (by omega)), if_neg (nI_ne0 (by omega) (by omega))]
      obtain ⟨c5, m5, u1, u2, u3⟩ := S_grow2 g3 hX hr he4 hH k35' (ov := w) (.inr ⟨w1, w2, w3, k34'.trans w4⟩)
      exact ⟨c5, m5, u1, u2, SI_mono u3 (by omega)⟩
    · rw [e1, e2, Option.bind_some, Option.bind_some]
      dsimp only
      unfold f_Ma_grow_J61 f_Ma_grow_J81 f_Ma_grow_J102 f_Ma_grow_J150
      rw [e5.1 (B + 34) (by omega), k34', if_neg g0, if_neg g0, if_pos rfl, if_neg (by decide), if_pos rfl, if_pos rfl, (rd_R e4 hX (by omega) hr (v := 0) rfl).1, Option.bind_some]
      obtain ⟨gg, ee, _⟩ := rd_5 e4 hX (j := 0) (by omega) (x := nI (600 * b + 3 * i)) rfl
      obtain ⟨c6, m6, u1, u2, u3, _⟩ := S_give e4 (by rw [e5.1 B (by omega)]; exact he4) hr.1 0 0 0
      refine ⟨c6, m6, by rw [u1]; rfl, ?_, u3⟩
      refine (e3 (fun q37 => gd (nI (600 * b + 3 * i)) 1200 <| (f_Mo_give (q37.1 5 (nI (600 * b + 3 * i) : Int32).toNatClampNeg) 0 0 0 q37).bind fun q39 => some q39)).trans ?_
      rw [gg, ee, hr.2.2.1, u2]; rfl
