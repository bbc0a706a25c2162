/-! ===== bytes read and written ===== -/
def rbS (B : Nat) (c : St) (a : Nat) (q : Int32 × Int32 × Int32) : Int32 × Int32 × Int32 :=
  (q.1 <<< (8 &&& 31) ||| c.1 (B + 2) a, q.2.1 <<< (8 &&& 31) ||| c.1 (B + 3) a, if c.1 (B + 3) a = 0 then q.2.2 else c.1 (B + 4) a)
def rb (B : Nat) (c : St) (a : Nat) : Nat → Int32 × Int32 × Int32 → Int32 × Int32 × Int32
  | 0, q => q
  | j + 1, q => rb B c a j (rbS B c (a + j) q)
theorem nI_pred' (j : Nat) : nI j + -1 = nI j - 1 := (Int32.sub_eq_add_neg (nI j) 1).symm
theorem me_rd {B k1 : Nat} {c : St} {a : Nat} : ∀ j q, a + j ≤ 4096 → wh (fun q : Int32 × Int32 × Int32 × Int32 => f_Me_readInto_L14 B k1 (nI a) q.1 q.2.1 q.2.2.1 q.2.2.2 c) (q.1, q.2.1, q.2.2, nI j - 1) = some ((rb B c a j q).1, (rb B c a j q).2.1, (rb B c a j q).2.2, nI 0 - 1)
  | 0, q, _ => wh_inr (by dsimp only; unfold f_Me_readInto_L14; rw [if_pos (by decide)]; rfl)
  | j + 1, q, h => by
    have e : f_Me_readInto_L14 B k1 (nI a) q.1 q.2.1 q.2.2 (nI (j + 1) - 1) c = some (.inl ((rbS B c (a + j) q).1, (rbS B c (a + j) q).2.1, (rbS B c (a + j) q).2.2, nI j - 1)) := by
      unfold f_Me_readInto_L14 f_Me_readInto_J74_1 rbS
      rw [nI_pred, if_neg (nI_pos (by omega)), nI_add]
      simp only [lt, gd_nI (show a + j < 4096 by omega) (show 4096 < 2 ^ 31 by omega), nI_clamp (show a + j < 2 ^ 31 by omega), nI_pred']
      split <;> rfl
    rw [wh_inl (by dsimp only; exact e)]
    exact me_rd j _ (by omega)
theorem mo_rd {z B : Nat} {c0 m0 c m : St} (h : RB z B c0 m0 c m) {r w sg : Int32} {a : Nat} : ∀ j q, a + j ≤ 4096 → wh (fun q : Int32 × Int32 × Int32 × Int32 => f_Mo_load_L32 r (nI a) w sg q.1 q.2.1 q.2.2.1 q.2.2.2 m) (q.1, q.2.1, q.2.2, nI j - 1) = some ((rb B c a j q).1, (rb B c a j q).2.1, (rb B c a j q).2.2, nI 0 - 1)
  | 0, q, _ => wh_inr (by dsimp only; unfold f_Mo_load_L32; rw [if_pos (by decide)]; rfl)
  | j + 1, q, hj => by
    have hz := RB_zb h
    obtain ⟨r0, r1, r2, _⟩ := RB_mem h (show a + j < 4096 by omega)
    have e : f_Mo_load_L32 r (nI a) w sg q.1 q.2.1 q.2.2 (nI (j + 1) - 1) m = some (.inl ((rbS B c (a + j) q).1, (rbS B c (a + j) q).2.1, (rbS B c (a + j) q).2.2, nI j - 1)) := by
      unfold f_Mo_load_L32 f_Mo_load_J101_1 rbS
      rw [nI_pred, if_neg (nI_pos (by omega)), RB_z h, ix4096, nI_add, Nat.add_assoc]
      simp only [lt, gd_nI (show 4096 * z + (a + j) < 8192 by omega) (show 8192 < 2 ^ 31 by omega), nI_clamp (show 4096 * z + (a + j) < 2 ^ 31 by omega), nI_pred', r0, r1, r2]
      split <;> rfl
    rw [wh_inl (by dsimp only; exact e)]
    exact mo_rd h j _ (by omega)
theorem give_o {z B : Nat} {c0 m0 c m : St} (h : RB z B c0 m0 c m) (hS : IS B c) (hi : m.1 0 69 = c.1 B 9) {r : Nat} (hr : r < 8) (v o o' : Int32) : f_Mo_give (nI r) v 0 o m = f_Mo_give (nI r) v 0 o' m := by
  by_cases h7 : r = 7
  · subst h7
    by_cases hb : (0 : Int32) ≠ 0 ∨ v < 3072 ∨ 4096 < v
    · exact ((give_bad (B := B) (c := c) (m := m) (o := o) hb).2).trans ((give_bad (B := B) (c := c) (m := m) (o := o') hb).2).symm
    · have hl : ¬ v < 3072 := fun h => hb (.inr (.inl h))
      have hg : ¬ 4096 < v := fun h => hb (.inr (.inr h))
      obtain ⟨q, hq, rfl⟩ : ∃ q, q ≤ 4096 ∧ v = nI q := nI_rngL (n := 4096) (by decide) (Int32.le_trans (by decide) (Int32.not_lt.mp hl)) (Int32.not_lt.mp hg)
      have hq1 : 3072 ≤ q := (nI_leI (a := 3072) (by decide) (by omega)).mp (Int32.not_lt.mp hl)
      exact (give_7 h hS hi hq1 hq o).2.trans (give_7 h hS hi hq1 hq o').2.symm
  · rw [(give_r h (show r < 7 by omega) v 0 o).2, (give_r h (show r < 7 by omega) v 0 o').2, if_pos rfl, if_pos rfl]
/-- bytes into the first scratch datum, and what the reference gives -/
theorem S_lb {z B n i N : Nat} {t : Int32} {c0 m0 c m : St} (h : SI z B n i N t c0 m0 c m) (x : Int32) {k : Nat} (hk : k = 1 ∨ k = 2 ∨ k = 4) :
    ∃ c' m' v s o, ((f_Ma_isValid B x (nI k) c).bind fun q4 => if q4.1 = 0 then ((f_Da_putSet (B + 34) 0 (q4.2)).bind fun q7 => some q7) else (f_Me_readInto B (B + 34) x (nI k) (q4.2)).bind fun q9 => some q9) = some c'
      ∧ SI z B (n + 1) i N t c0 m0 c' m' ∧ c'.1 (B + 34) 0 = v ∧ c'.1 (B + 34) 1 = s ∧ (s = 0 ∨ c'.1 (B + 34) 2 = o) ∧ (∀ k, k < B + 17 → c'.1 k = c.1 k) ∧ (∀ r, r < 8 → c'.1 (B + 26 + r) = c.1 (B + 26 + r)) ∧ (∀ k, 0 < k → k < 38 → m'.1 k = m.1 k)
      ∧ (∀ r', f_Mo_load r' x (nI k) 0 m = f_Mo_give r' v s o m') ∧ (k = 1 → ∀ r', f_Mo_load r' x (nI k) 1 m = f_Mo_give r' v.toInt8.toInt32 s.toInt8.toInt32 o m') ∧ (k = 2 → ∀ r', f_Mo_load r' x (nI k) 1 m = f_Mo_give r' v.toInt16.toInt32 s.toInt16.toInt32 o m') := by
  rcases S_valid h x (k := k) (by omega) with ⟨ha, e1, e2⟩ | ⟨c', m', e1, e2, e3, e4⟩
  · obtain ⟨a, rfl, ha, _⟩ := ha.resolve_left (by omega)
    have L1 := me_rd (B := B) (k1 := B + 34) (c := c) (a := a) k (0, 0, 0) ha
    have L2 := fun r sg => mo_rd h.1 (r := r) (w := nI k) (sg := sg) (a := a) k (0, 0, 0) ha
    generalize rb B c a k (0, 0, 0) = q at L1 L2
    have hL : ∀ r' sg, f_Mo_load r' (nI a) (nI k) sg m = if sg = 0 then f_Mo_load_J144 r' q.1 q.2.1 q.2.2 m else if nI k = 1 then f_Mo_load_J126 r' (nI k) q.2.1 q.2.2 q.1.toInt8.toInt32 m else f_Mo_load_J126 r' (nI k) q.2.1 q.2.2 q.1.toInt16.toInt32 m := by
      intro r' sg
      unfold f_Mo_load
      rw [e2]
      simp only [Option.bind_some]
      rw [if_neg (by decide)]
      simp only [lt]
      rw [L2 r' sg]
      rfl
    refine ⟨dP c (B + 34) q.1 q.2.1 q.2.2, m, q.1, q.2.1, q.2.2, ?_, SI_mono (SI_ab h (.inl rfl)) (by omega), dP_0, dP_1, ?_, fun k hk => dP_n (by omega), fun r hr => dP_n (by omega), fun _ _ _ => rfl, fun r' => ?_, fun k1 r' => ?_, fun k2 r' => ?_⟩
    · rw [e1]
      simp only [Option.bind_some]
      rw [if_neg (by decide)]
      unfold f_Me_readInto
      simp only [lt]
      rw [L1]
      simp only [Option.bind_some, da_put]
    · rw [dP_2]
      by_cases g : q.2.1 = 0
      · exact .inl g
      · exact .inr (if_neg g)
    · rw [hL, if_pos rfl]; unfold f_Mo_load_J144; exact bind_rt
    · subst k1
      rw [hL, if_neg (by decide), if_pos (show nI 1 = 1 from rfl)]; unfold f_Mo_load_J126 f_Mo_load_J142 f_Mo_load_J144
      rw [if_pos (show nI 1 = 1 from rfl)]; exact bind_rt
    · subst k2
      rw [hL, if_neg (by decide), if_neg (show ¬ nI 2 = 1 by decide)]; unfold f_Mo_load_J126 f_Mo_load_J142 f_Mo_load_J144
      rw [if_neg (show ¬ nI 2 = 1 by decide)]; exact bind_rt
  · have hL : ∀ r' sg, f_Mo_load r' x (nI k) sg m = f_Mo_give r' 0 0 0 m' := by
      intro r' sg
      unfold f_Mo_load
      rw [e2]
      simp only [Option.bind_some]
      rw [if_pos trivial]; exact bind_rt
    refine ⟨dP c' (B + 34) 0 0 0, m', 0, 0, 0, ?_, SI_ab e3 (.inl rfl), dP_0, dP_1, .inl rfl, fun k hk => ?_, fun r hr => ?_, e4.2.1, fun r' => hL r' 0, fun _ r' => ?_, fun _ r' => ?_⟩
    · rw [e1]
      simp only [Option.bind_some]
      rw [if_pos trivial]
      unfold f_Da_putSet
      simp only [Option.bind_some, da_put]
    · rw [dP_n (by omega)]; exact e4.1 k (by omega)
    · rw [dP_n (by omega)]; exact e4.1 _ (by omega)
    · rw [hL r' 1, show ((0 : Int32).toInt8.toInt32) = 0 by decide]
    · rw [hL r' 1, show ((0 : Int32).toInt16.toInt32) = 0 by decide]
theorem fm_c {o : Nat} (h1 : 21 ≤ o) (h2 : o ≤ 28) : fm o 0 = 1 ∧ fm o 1 = 1 ∧ fm o 2 = 2 := by
  have : ∀ o : Fin 51, 21 ≤ o.val → o.val ≤ 28 → fm o.val 0 = 1 ∧ fm o.val 1 = 1 ∧ fm o.val 2 = 2 := by decide
  exact this ⟨o, by omega⟩ h1 h2
def wof (o : Nat) : Nat := if o = 21 ∨ o = 22 ∨ o = 26 then 1 else if o = 23 ∨ o = 24 ∨ o = 27 then 2 else 4
theorem wof_n {o : Nat} (h1 : 21 ≤ o) (h2 : o ≤ 28) : f_Ma_widthOf (nI o) = nI (wof o) ∧ (wof o = 1 ∨ wof o = 2 ∨ wof o = 4) := by
  have : ∀ o : Fin 51, 21 ≤ o.val → o.val ≤ 28 → f_Ma_widthOf (nI o.val) = nI (wof o.val) ∧ (wof o.val = 1 ∨ wof o.val = 2 ∨ wof o.val = 4) := by decide +kernel
  exact this ⟨o, by omega⟩ h1 h2
/-- the reference's way to a load or a store -/
theorem mo_reach {z B n i N P b o : Nat} {t : Int32} {c0 m0 c m : St} (h : SI z B n i N t c0 m0 c m) (hX : PX B P b i N o c0 m0) (h1 : 21 ≤ o) (h2 : o ≤ 28) {r : Nat} {w : Int32} (hr : kR c0 m0 P b i 1 r) (hw : kN c0 m0 P b i 2 w) : f_Mo_reach_J22 (nI o) (nI (600 * b + 3 * i)) m = f_Mo_reach_J84 (nI o) (nI (600 * b + 3 * i)) (c.1 (B + 26 + r) 0 + w) (nI (wof o)) m := by
  obtain ⟨x1, _, _⟩ := rd_m h hX (by omega) hr (x := nI (600 * b + 3 * i) + 1) (nI_1 _)
  obtain ⟨g6, e6, _⟩ := rd_5 h hX (j := 2) (by omega) (x := nI (600 * b + 3 * i) + 2) (nI_add _ 2)
  unfold f_Mo_reach_J22 f_Mo_reach_J57 f_Mo_reach_J79
  rw [x1]
  simp only [Option.bind_some, lt]
  rw [g6, e6, hw.2.1]
  have hc : o = 21 ∨ o = 22 ∨ o = 23 ∨ o = 24 ∨ o = 25 ∨ o = 26 ∨ o = 27 ∨ o = 28 := by omega
  rcases hc with rfl | rfl | rfl | rfl | rfl | rfl | rfl | rfl
  · rw [if_pos (show nI 21 = 21 from rfl), show nI (wof 21) = 1 from rfl]
  · rw [if_neg (show ¬ nI 22 = 21 by decide), if_pos (show nI 22 = 22 from rfl), show nI (wof 22) = 1 from rfl]
  · rw [if_neg (show ¬ nI 23 = 21 by decide), if_neg (show ¬ nI 23 = 22 by decide), if_neg (show ¬ nI 23 = 26 by decide), if_pos (show nI 23 = 23 from rfl), show nI (wof 23) = 2 from rfl]
  · rw [if_neg (show ¬ nI 24 = 21 by decide), if_neg (show ¬ nI 24 = 22 by decide), if_neg (show ¬ nI 24 = 26 by decide), if_neg (show ¬ nI 24 = 23 by decide), if_pos (show nI 24 = 24 from rfl), show nI (wof 24) = 2 from rfl]
  · rw [if_neg (show ¬ nI 25 = 21 by decide), if_neg (show ¬ nI 25 = 22 by decide), if_neg (show ¬ nI 25 = 26 by decide), if_neg (show ¬ nI 25 = 23 by decide), if_neg (show ¬ nI 25 = 24 by decide), if_neg (show ¬ nI 25 = 27 by decide), show nI (wof 25) = 4 from rfl]
  · rw [if_neg (show ¬ nI 26 = 21 by decide), if_neg (show ¬ nI 26 = 22 by decide), if_pos (show nI 26 = 26 from rfl), show nI (wof 26) = 1 from rfl]
  · rw [if_neg (show ¬ nI 27 = 21 by decide), if_neg (show ¬ nI 27 = 22 by decide), if_neg (show ¬ nI 27 = 26 by decide), if_neg (show ¬ nI 27 = 23 by decide), if_neg (show ¬ nI 27 = 24 by decide), if_pos (show nI 27 = 27 from rfl), show nI (wof 27) = 2 from rfl]
  · rw [if_neg (show ¬ nI 28 = 21 by decide), if_neg (show ¬ nI 28 = 22 by decide), if_neg (show ¬ nI 28 = 26 by decide), if_neg (show ¬ nI 28 = 23 by decide), if_neg (show ¬ nI 28 = 24 by decide), if_neg (show ¬ nI 28 = 27 by decide), show nI (wof 28) = 4 from rfl]
theorem o_load {z B n i N P b o : Nat} {t : Int32} {c0 m0 c m : St} (h : SI z B n i N t c0 m0 c m) (hX : PX B P b i N o c0 m0) (he : c.1 B 11 = 0) (ho : 21 ≤ o) (ho2 : o ≤ 25) :
    ∃ c' m', f_Ma_load B (nI o) c = some c' ∧ f_Mo_reach (nI o) (nI (600 * b + 3 * i)) m = some m' ∧ SI z B (n + 2) i N t c0 m0 c' m' := by
  obtain ⟨k0, k1, k2⟩ := fm_c ho (show o ≤ 28 by omega)
  obtain ⟨r, hr⟩ := PX_R hX (by omega) k0
  obtain ⟨ra, hra⟩ := PX_R hX (by omega) k1
  obtain ⟨w, hw⟩ := PX_N hX (by omega) k2
  obtain ⟨_, q2, q3⟩ := rd_R h hX (by omega) hra (v := 1) rfl
  obtain ⟨x1, x2, x3⟩ := rd_m h hX (by omega) hra (x := nI (600 * b + 3 * i) + 1) (nI_1 _)
  obtain ⟨w1, w2⟩ := wof_n ho (show o ≤ 28 by omega)
  obtain ⟨c1, m1, f1, f2, f3, f4⟩ := S_rep h (B + 26 + ra) 2 rfl rfl
  have kra : c1.1 (B + 26 + ra) = c.1 (B + 26 + ra) := f4.1 _ (by omega)
  have he1 : c1.1 B 11 = 0 := by rw [f4.1 B (by omega)]; exact he
  obtain ⟨c2, m2, v, s, og, g1, g2, g3, g4, g5, g6, g7, g8, g9, g10, g11⟩ := S_lb f3 (c.1 (B + 26 + ra) 0 + w) w2
  have he2 : c2.1 B 11 = 0 := by rw [g6 B (by omega)]; exact he1
  obtain ⟨gg, ee5, _⟩ := rd_5 f3 hX (j := 0) (by omega) (x := nI (600 * b + 3 * i)) rfl
  have eM : f_Mo_reach (nI o) (nI (600 * b + 3 * i)) m = f_Mo_reach_J84 (nI o) (nI (600 * b + 3 * i)) (c.1 (B + 26 + ra) 0 + w) (nI (wof o)) m1 := by
    unfold f_Mo_reach
    rw [x2, x3]
    simp only [Option.bind_some]
    refine (f2 (fun q => f_Mo_reach_J22 (nI o) (nI (600 * b + 3 * i)) q)).trans ?_
    rw [mo_reach f3 hX ho (by omega) hra hw, kra]
  have eM2 : f_Mo_reach_J84 (nI o) (nI (600 * b + 3 * i)) (c.1 (B + 26 + ra) 0 + w) (nI (wof o)) m1 = if o = 21 ∨ o = 23 then f_Mo_load (nI r) (c.1 (B + 26 + ra) 0 + w) (nI (wof o)) 1 m1 else f_Mo_load (nI r) (c.1 (B + 26 + ra) 0 + w) (nI (wof o)) 0 m1 := by
    unfold f_Mo_reach_J84 f_Mo_reach_J114 f_Mo_reach_J119
    rw [if_neg (show ¬ 26 ≤ nI o from nI_ge (b := 26) (by omega) (by omega)), gg, ee5, hr.2.2.1]
    simp only [bind_rt]
    by_cases g21 : o = 21
    · subst g21; rw [if_pos (show nI 21 = 21 from rfl), if_pos (.inl rfl)]
    · rw [if_neg (show ¬ nI o = 21 from ne_l (k := 21) (by omega) (by omega) g21)]
      by_cases g23 : o = 23
      · subst g23; rw [if_pos (show nI 23 = 23 from rfl), if_pos (.inr rfl)]
      · rw [if_neg (show ¬ nI o = 23 from ne_l (k := 23) (by omega) (by omega) g23), if_neg (by omega)]
  have eC : f_Ma_load B (nI o) c = if nI o = 21 then f_Ma_load_J41 B 19 c2 else if nI o = 23 then f_Ma_load_J41 B 20 c2 else f_Ma_load_J41 B 1 c2 := by
    unfold f_Ma_load
    rw [q2]
    simp only [Option.bind_some]
    rw [if_pos q3, rd_o h hX (j := 2) (by omega) (v := 2) rfl, hw.2.2, w1]
    simp only [Option.bind_some]
    unfold f_Ma_loadBytes
    simp only [lt]
    rw [f1]
    simp only [Option.bind_some]
    rw [g1]
    rfl
  have fin : ∀ (w0 v' s' : Int32), f_Ru_shade (B + 34) (B + 34) w0 (c2.1 B 8) c2 = some s' → f_Ru_value w0 v 0 = v' → (s = 0 → s' = 0) → ∃ c' m', f_Ma_load_J41 B w0 c2 = some c' ∧ f_Mo_give (nI r) v' s' og m2 = some m' ∧ SI z B (n + 2) i N t c0 m0 c' m' := by
    intro w0 v' s' hs' hv' hs0
    obtain ⟨c', m', e1, e2, e3, _⟩ := S_give g2 he2 hr.1 v' s' (c2.1 (B + 34) 2)
    refine ⟨c', m', ?_, ?_, e3⟩
    · unfold f_Ma_load_J41
      rw [hs', (rd_R g2 hX (by omega) hr (v := 0) rfl).1, g3, hv']
      simp only [Option.bind_some, e1]
    · rcases g5 with g5 | g5
      · rw [hs0 g5] at e2 ⊢
        rw [give_o g2.1 g2.2.2.2.1 ((SI_69 g2).trans (SI_9 g2).symm) hr.1 v' og (c2.1 (B + 34) 2)]; exact e2
      · rw [← g5]; exact e2
  rw [eM, eM2, eC]
  by_cases g21 : o = 21
  · subst g21
    rw [if_pos (show nI 21 = 21 from rfl), if_pos (.inl rfl), g10 rfl]
    exact fin (nI 19) _ _ (ru_sh1 (nl_far (by omega)) (by rw [g4]; exact mv_19)) (ru_vl1 (by decide) (nl_far (by omega)) mv_19) (fun e => by rw [e]; decide)
  · rw [if_neg (show ¬ nI o = 21 from ne_l (k := 21) (by omega) (by omega) g21)]
    by_cases g23 : o = 23
    · subst g23
      rw [if_pos (show nI 23 = 23 from rfl), if_pos (.inr rfl), g11 rfl]
      exact fin (nI 20) _ _ (ru_sh1 (nl_far (by omega)) (by rw [g4]; exact mv_20)) (ru_vl1 (by decide) (nl_far (by omega)) mv_20) (fun e => by rw [e]; decide)
    · rw [if_neg (show ¬ nI o = 23 from ne_l (k := 23) (by omega) (by omega) g23), if_neg (by omega), g9]
      exact fin (nI 1) _ _ (ru_sh1 (nl_far (by omega)) (by rw [g4]; exact mv_1 (by omega))) (ru_vl1 (by decide) (nl_far (by omega)) (mv_1 (by omega))) (fun e => e)
