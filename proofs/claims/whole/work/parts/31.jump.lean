/-! ===== branches, jumps, input, output ===== -/
theorem SI_Bof {z B n n' i N : Nat} {t : Int32} {c0 m0 c m c' m' : St} (h : SI z B n i N t c0 m0 c m) (hn : n ≤ n') (hR : RB z B c0 m0 c' m') (hc : ∀ k, k ≠ B → k < B + 36 → c'.1 k = c.1 k) (h64 : m'.1 0 64 = m.1 0 64) (h33 : m'.1 33 = m.1 33) (h35 : m'.1 35 = m.1 35) (hX : IX z B n' i N t c0 m0 c' m') : SI z B n' i N t c0 m0 c' m' := by
  obtain ⟨h1, h2, h3, h4, h5, h6, h7⟩ := h
  exact ⟨hR, LG_of h2 hn (hc _ (by omega) (by omega)) h64, IM_of h3 (hc _ (by omega) (by omega)) (hc _ (by omega) (by omega)) (hc _ (by omega) (by omega)), IS_of h4 (by rw [hc _ (by omega) (by omega)]) (hc _ (by omega) (by omega)) (hc _ (by omega) (by omega)), IR_of h5 (fun k _ _ => hc k (by omega) (by omega)), HI_of h6 (fun k _ _ => hc k (by omega) (by omega)) h33 h35, hX⟩
theorem SI_mark {z B n i N : Nat} {t : Int32} {c0 m0 c m : St} (h : SI z B n i N t c0 m0 c m) (v : Int32) : SI z B n i N t c0 m0 (uI c B 13 v) (uI m 23 z v) := by
  refine SI_Bof h (Nat.le_refl _) (RB_set (d := 0) h.1 (show phi z 0 13 = some (23, z) from rfl) (by omega) (by unfold own; omega)) (fun k hk _ => uI_n hk) (by rw [uI_n (by omega)]) (uI_n (by omega)) (uI_n (by omega)) (IX_of h.2.2.2.2.2.2 (Nat.le_refl _) (fun j _ h13 => uI_o (by omega)) ?_ (uI_n (by omega)) (by rw [uI_n (by omega)]) (by rw [uI_n (by omega)]))
  rw [uI_o (by omega)]; exact h.2.2.2.2.2.2.2.2.2.2.2.1
theorem SI_next {z B n i N : Nat} {t : Int32} {c0 m0 c m : St} (h : SI z B n i N t c0 m0 c m) {q : Nat} (hq : q ≤ N) : SI z B n i N t c0 m0 (uI c B 10 (nI q)) (uI m 20 z (nI q)) := by
  refine SI_Bof h (Nat.le_refl _) (RB_set (d := 0) h.1 (show phi z 0 10 = some (20, z) from rfl) (by omega) (by unfold own; omega)) (fun k hk _ => uI_n hk) (by rw [uI_n (by omega)]) (uI_n (by omega)) (uI_n (by omega)) ?_
  obtain ⟨a1, a2, a3, a4, a5, a6, a7, a8, a9, a10⟩ := h.2.2.2.2.2.2
  unfold IX
  rw [uI_n (show B + 36 ≠ B by omega), uI_v, uI_o (by omega), uI_o (by omega), uI_o (by omega), uI_o (by omega), uI_o (by omega), uI_o (by omega), uI_o (by omega), uI_o (by omega), uI_o (by omega)]
  exact ⟨a1, a2, a3, a4, a5, a6, ⟨q, hq, rfl⟩, a8, a9, a10⟩
theorem SI_end {z B n i N : Nat} {t : Int32} {c0 m0 c m : St} (h : SI z B n i N t c0 m0 c m) : SI z B n i N t c0 m0 (uI c B 11 1) (uI m 21 z 1) := by
  refine SI_Bof h (Nat.le_refl _) (RB_set (d := 0) h.1 (show phi z 0 11 = some (21, z) from rfl) (by omega) (by unfold own; omega)) (fun k hk _ => uI_n hk) (by rw [uI_n (by omega)]) (uI_n (by omega)) (uI_n (by omega)) (IX_of h.2.2.2.2.2.2 (Nat.le_refl _) (fun j h11 _ => uI_o (by omega)) ?_ (uI_n (by omega)) (by rw [uI_n (by omega)]) (by rw [uI_n (by omega)]))
  rw [uI_v]; exact .inr (by decide)
theorem fm_e {o : Nat} (h1 : 29 ≤ o) (h2 : o ≤ 34) : fm o 0 = 1 ∧ fm o 1 = 3 ∧ fm o 2 = 4 := by
  have : ∀ o : Fin 51, 29 ≤ o.val → o.val ≤ 34 → fm o.val 0 = 1 ∧ fm o.val 1 = 3 ∧ fm o.val 2 = 4 := by decide
  exact this ⟨o, by omega⟩ h1 h2
/-- the end of a branch: taken or not -/
theorem br_end {z B n i N P b o : Nat} {t : Int32} {c0 m0 c m : St} (h : SI z B n i N t c0 m0 c m) (hX : PX B P b i N o c0 m0) {q : Nat} (hq : q ≤ N) (hl : kL c0 m0 P b i 2 q) (x : Int32) :
    ∃ c' m', (if x = 0 then f_Ma_branch_J150 B x 2 c else f_Ma_branch_J150 B x 1 c) = some c' ∧ f_Mo_branch_J213 (nI (600 * b + 3 * i)) x m = some m' ∧ SI z B n i N t c0 m0 c' m' := by
  have hz := RB_zb h.1
  have e13 : c.1 B 13 = m.1 23 z := RB_eq h.1 (show phi z 0 13 = some (23, z) from rfl)
  have gen : ∀ w0 : Int32, ∃ c' m', f_Ma_branch_J150 B x w0 c = some c' ∧ f_Mo_branch_J245 (nI (600 * b + 3 * i)) x w0 (m.1 23 z * 31) (nI z) m = some m' ∧ SI z B n i N t c0 m0 c' m' := by
    intro w0
    have h2 := SI_mark h (c.1 B 13 * 31 + w0)
    obtain ⟨g6, e6, _⟩ := rd_5 h2 hX (j := 2) (by omega) (x := nI (600 * b + 3 * i) + 2) (nI_add _ 2)
    unfold f_Ma_branch_J150 f_Mo_branch_J245 f_Ma_addToMark
    rw [gd_nI hz (by omega), nI_clamp (by omega), ← e13]
    simp only [lt, Option.bind_some]
    by_cases g : x = 0
    · rw [if_pos g, if_pos g]; exact ⟨_, _, rfl, rfl, h2⟩
    · rw [if_neg g, if_neg g, rd_o h2 hX (j := 2) (by omega) (v := 2) rfl, hl.2, g6, RB_z h2.1, gd_nI hz (by omega), nI_clamp (by omega), e6, hl.1]
      simp only [Option.bind_some]
      exact ⟨_, _, rfl, rfl, SI_next h2 hq⟩
  unfold f_Mo_branch_J213
  rw [RB_z h.1, gd_nI hz (by omega), nI_clamp (by omega)]
  by_cases g : x = 0
  · rw [if_pos g, if_pos g]; exact gen 2
  · rw [if_neg g, if_neg g]; exact gen 1
theorem ru_sh15 {k1 k2 : Nat} {c : St} {f : Int32} : f_Ru_shade k1 k2 (nI 15) f c = f_Ru_shadeOfEqual k1 k2 f c := by
  unfold f_Ru_shade f_Ru_shade_J275
  rw [lt_eq, if_neg (show ¬ nI 15 = 4 by decide), if_neg (show ¬ nI 15 = 5 by decide), if_neg (show ¬ nI 15 = 6 by decide), if_neg (show ¬ nI 15 = 7 by decide), if_neg (show ¬ nI 15 = 8 by decide), if_neg (show ¬ nI 15 = 9 by decide), if_neg (show ¬ nI 15 = 10 by decide), if_neg (show ¬ nI 15 = 11 by decide), if_neg (show ¬ nI 15 = 12 by decide), if_neg (show ¬ nI 15 = 13 by decide), if_neg (show ¬ nI 15 = 14 by decide), if_pos (show nI 15 = 15 from rfl), bind_rt]
theorem ru_sh17 {k1 k2 : Nat} {c : St} {f : Int32} : f_Ru_shade k1 k2 (nI 17) f c = f_Ru_shadeOfBelow k1 k2 (-2147483648) f c := by
  unfold f_Ru_shade
  rw [lt_eq, if_neg (show ¬ nI 17 = 4 by decide), if_neg (show ¬ nI 17 = 5 by decide), if_neg (show ¬ nI 17 = 6 by decide), if_neg (show ¬ nI 17 = 7 by decide), if_neg (show ¬ nI 17 = 8 by decide), if_neg (show ¬ nI 17 = 9 by decide), if_neg (show ¬ nI 17 = 10 by decide), if_neg (show ¬ nI 17 = 11 by decide), if_neg (show ¬ nI 17 = 12 by decide), if_neg (show ¬ nI 17 = 13 by decide), if_neg (show ¬ nI 17 = 14 by decide), if_neg (show ¬ nI 17 = 15 by decide), if_neg (show ¬ nI 17 = 16 by decide), if_pos (show nI 17 = 17 from rfl), bind_rt]
theorem ru_sh18 {k1 k2 : Nat} {c : St} {f : Int32} : f_Ru_shade k1 k2 (nI 18) f c = f_Ru_shadeOfBelow k1 k2 0 f c := by
  unfold f_Ru_shade
  rw [lt_eq, if_neg (show ¬ nI 18 = 4 by decide), if_neg (show ¬ nI 18 = 5 by decide), if_neg (show ¬ nI 18 = 6 by decide), if_neg (show ¬ nI 18 = 7 by decide), if_neg (show ¬ nI 18 = 8 by decide), if_neg (show ¬ nI 18 = 9 by decide), if_neg (show ¬ nI 18 = 10 by decide), if_neg (show ¬ nI 18 = 11 by decide), if_neg (show ¬ nI 18 = 12 by decide), if_neg (show ¬ nI 18 = 13 by decide), if_neg (show ¬ nI 18 = 14 by decide), if_neg (show ¬ nI 18 = 15 by decide), if_neg (show ¬ nI 18 = 16 by decide), if_neg (show ¬ nI 18 = 17 by decide), if_pos (show nI 18 = 18 from rfl), bind_rt]
theorem ru_vl15 {a b : Int32} : f_Ru_value (nI 15) a b = if a = b then 1 else 0 := by
  unfold f_Ru_value
  rw [if_neg (show ¬ nI 15 = 2 by decide), if_neg (show ¬ nI 15 = 3 by decide), if_neg (show ¬ nI 15 = 4 by decide), if_neg (show ¬ nI 15 = 5 by decide), if_neg (show ¬ nI 15 = 6 by decide), if_neg (show ¬ nI 15 = 7 by decide), if_neg (show ¬ nI 15 = 8 by decide), if_neg (show ¬ nI 15 = 9 by decide), if_neg (show ¬ nI 15 = 10 by decide), if_neg (show ¬ nI 15 = 11 by decide), if_neg (show ¬ nI 15 = 12 by decide), if_neg (show ¬ nI 15 = 13 by decide), if_neg (show ¬ nI 15 = 14 by decide), if_pos (show nI 15 = 15 from rfl)]
theorem ru_vl17 {a b : Int32} : f_Ru_value (nI 17) a b = if b ≤ a then 0 else 1 := by
  unfold f_Ru_value
  rw [if_neg (show ¬ nI 17 = 2 by decide), if_neg (show ¬ nI 17 = 3 by decide), if_neg (show ¬ nI 17 = 4 by decide), if_neg (show ¬ nI 17 = 5 by decide), if_neg (show ¬ nI 17 = 6 by decide), if_neg (show ¬ nI 17 = 7 by decide), if_neg (show ¬ nI 17 = 8 by decide), if_neg (show ¬ nI 17 = 9 by decide), if_neg (show ¬ nI 17 = 10 by decide), if_neg (show ¬ nI 17 = 11 by decide), if_neg (show ¬ nI 17 = 12 by decide), if_neg (show ¬ nI 17 = 13 by decide), if_neg (show ¬ nI 17 = 14 by decide), if_neg (show ¬ nI 17 = 15 by decide), if_neg (show ¬ nI 17 = 16 by decide), if_pos (show nI 17 = 17 from rfl)]
theorem ru_vl18 {a b : Int32} : f_Ru_value (nI 18) a b = if f_Ru_isBelow a b = 0 then 0 else 1 := by
  unfold f_Ru_value
  rw [if_neg (show ¬ nI 18 = 2 by decide), if_neg (show ¬ nI 18 = 3 by decide), if_neg (show ¬ nI 18 = 4 by decide), if_neg (show ¬ nI 18 = 5 by decide), if_neg (show ¬ nI 18 = 6 by decide), if_neg (show ¬ nI 18 = 7 by decide), if_neg (show ¬ nI 18 = 8 by decide), if_neg (show ¬ nI 18 = 9 by decide), if_neg (show ¬ nI 18 = 10 by decide), if_neg (show ¬ nI 18 = 11 by decide), if_neg (show ¬ nI 18 = 12 by decide), if_neg (show ¬ nI 18 = 13 by decide), if_neg (show ¬ nI 18 = 14 by decide), if_neg (show ¬ nI 18 = 15 by decide), if_neg (show ¬ nI 18 = 16 by decide), if_neg (show ¬ nI 18 = 17 by decide), if_pos (show nI 18 = 18 from rfl)]
theorem o_branch {z B n i N P b o : Nat} {t : Int32} {c0 m0 c m : St} (h : SI z B n i N t c0 m0 c m) (hX : PX B P b i N o c0 m0) (ho : 29 ≤ o) (ho2 : o ≤ 34) :
    ∃ c' m', f_Ma_branch B (nI o) c = some c' ∧ f_Mo_branch (nI o) (nI (600 * b + 3 * i)) m = some m' ∧ SI z B (n + 1) i N t c0 m0 c' m' := by
  obtain ⟨k0, k1, k2⟩ := fm_e ho ho2
  obtain ⟨ra, hra⟩ := PX_R hX (by omega) k0
  have hkb := PX_E hX (by omega) k1
  obtain ⟨q, hq, hl⟩ := PX_L hX (by omega) k2
  obtain ⟨va, sa, oa, na, ea, xa, ya, za, _⟩ := rd_t h hX (by omega) hra (B + 34) (w := 0) rfl (x := nI (600 * b + 3 * i)) rfl
  have h1 := SI_ab h (k := B + 34) (.inl rfl) (v := va) (s := sa) (o := oa)
  obtain ⟨vb, sb, ob, nb, eb, xb, yb, zb⟩ := rd_e h1 hX (by omega) hkb (B + 35) (w := 1) rfl (x := nI (600 * b + 3 * i) + 1) (nI_1 _)
  have h2 := SI_ab h1 (k := B + 35) (.inr rfl) (v := vb) (s := sb) (o := ob)
  have ha0 : (dP (dP c (B + 34) va sa oa) (B + 35) vb sb ob).1 (B + 34) 0 = va := by rw [dP_n0 (by omega), dP_0]
  have ha1 : (dP (dP c (B + 34) va sa oa) (B + 35) vb sb ob).1 (B + 34) 1 = sa := by rw [dP_n0 (by omega), dP_1]
  have ha2 : (dP (dP c (B + 34) va sa oa) (B + 35) vb sb ob).1 (B + 34) 2 = oa := by rw [dP_n0 (by omega), dP_2' na]
  have hb0 : (dP (dP c (B + 34) va sa oa) (B + 35) vb sb ob).1 (B + 35) 0 = vb := dP_0
  have hb1 : (dP (dP c (B + 34) va sa oa) (B + 35) vb sb ob).1 (B + 35) 1 = sb := dP_1
  have hb2 : (dP (dP c (B + 34) va sa oa) (B + 35) vb sb ob).1 (B + 35) 2 = ob := dP_2' nb
  have hf : (dP (dP c (B + 34) va sa oa) (B + 35) vb sb ob).1 B 8 = 0 ∨ (dP (dP c (B + 34) va sa oa) (B + 35) vb sb ob).1 B 8 = 1 := by rw [SI_8 h2]; exact hX.2.2.2.2.2.2.2.2.2.2.2.1
  have hf2 := (SI_29 h2).trans (SI_8 h2).symm
  have eC0 : f_Ma_branch B (nI o) c = if 30 < nI o then (if 32 < nI o then f_Ma_branch_J42 B (nI o) 18 (dP (dP c (B + 34) va sa oa) (B + 35) vb sb ob) else f_Ma_branch_J42 B (nI o) 17 (dP (dP c (B + 34) va sa oa) (B + 35) vb sb ob)) else f_Ma_branch_J42 B (nI o) 15 (dP (dP c (B + 34) va sa oa) (B + 35) vb sb ob) := by
    unfold f_Ma_branch
    rw [ea]
    simp only [Option.bind_some, eb]
  have eM0 : f_Mo_branch (nI o) (nI (600 * b + 3 * i)) m = if 31 ≤ nI o then (if 33 ≤ nI o then f_Mo_branch_J70 (nI o) (nI (600 * b + 3 * i)) va sa vb sb 0 sb vb sa va m else f_Mo_branch_J70 (nI o) (nI (600 * b + 3 * i)) va sa vb sb 1 sb vb sa va m) else (f_Mo_equalShade va sa vb sb m).bind fun q34 => f_Mo_branch_J73 (nI o) (nI (600 * b + 3 * i)) va sa vb sb q34 m := by
    unfold f_Mo_branch
    rw [xa, ya, xb, yb]; rfl
  rw [eC0, eM0]
  generalize dP (dP c (B + 34) va sa oa) (B + 35) vb sb ob = c2 at h2 ha0 ha1 ha2 hb0 hb1 hb2 hf hf2
  have j1 : ∀ (q : Nat) (w0 : Int32), q = 30 ∨ q = 32 ∨ q = 34 → f_Ma_branch_J42 B (nI q) w0 c2 = f_Ma_branch_J66 B w0 1 c2 := by
    intro q w0 hq
    unfold f_Ma_branch_J42 f_Ma_branch_J61
    rcases hq with rfl | rfl | rfl
    · rw [if_pos (show nI 30 = 30 from rfl)]
    · rw [if_neg (show ¬ nI 32 = 30 by decide), if_pos (show nI 32 = 32 from rfl)]
    · rw [if_neg (show ¬ nI 34 = 30 by decide), if_neg (show ¬ nI 34 = 32 by decide), if_pos (show nI 34 = 34 from rfl)]
  have j0 : ∀ (q : Nat) (w0 : Int32), q = 29 ∨ q = 31 ∨ q = 33 → f_Ma_branch_J42 B (nI q) w0 c2 = f_Ma_branch_J66 B w0 0 c2 := by
    intro q w0 hq
    unfold f_Ma_branch_J42
    rw [if_neg (show ¬ nI q = 30 from ne_l (k := 30) (by omega) (by omega) (by omega)), if_neg (show ¬ nI q = 32 from ne_l (k := 32) (by omega) (by omega) (by omega)), if_neg (show ¬ nI q = 34 from ne_l (k := 34) (by omega) (by omega) (by omega))]
  -- with the shade, the two go on alike
  have gen : ∀ (w0 v3 sh : Int32) (x : Int32), f_Ru_shade (B + 34) (B + 35) w0 (c2.1 B 8) c2 = some sh → ((if f_Ru_value w0 va vb = 0 then (0 : Int32) else 1) ^^^ v3) = x → (∀ m', f_Mo_branch_J104 (nI o) (nI (600 * b + 3 * i)) va vb m' = f_Mo_branch_J213 (nI (600 * b + 3 * i)) x m') →
      ∃ c' m', f_Ma_branch_J66 B w0 v3 c2 = some c' ∧ f_Mo_branch_J73 (nI o) (nI (600 * b + 3 * i)) va sa vb sb sh m = some m' ∧ SI z B (n + 1) i N t c0 m0 c' m' := by
    intro w0 v3 sh x e1 e2 e3
    have tail : ∀ c3 m3, SI z B (n + 1) i N t c0 m0 c3 m3 → c3.1 (B + 34) = c2.1 (B + 34) → c3.1 (B + 35) = c2.1 (B + 35) → ∃ c' m', f_Ma_branch_J109 B w0 v3 c3 = some c' ∧ f_Mo_branch_J104 (nI o) (nI (600 * b + 3 * i)) va vb m3 = some m' ∧ SI z B (n + 1) i N t c0 m0 c' m' := by
      intro c3 m3 h3 q34 q35
      obtain ⟨c', m', g1, g2, g3⟩ := br_end h3 hX hq hl x
      refine ⟨c', m', ?_, by rw [e3]; exact g2, g3⟩
      unfold f_Ma_branch_J109 f_Ma_branch_J135
      rw [q34, q35, ha0, hb0]
      simp only [lt]
      by_cases g : f_Ru_value w0 va vb = 0
      · rw [if_pos g] at e2 ⊢; rw [e2]; exact g1
      · rw [if_neg g] at e2 ⊢; rw [e2]; exact g1
    unfold f_Ma_branch_J66 f_Mo_branch_J73
    rw [e1]
    simp only [Option.bind_some]
    by_cases g : sh = 0
    · rw [if_pos g, if_pos g]; exact tail c2 m (SI_mono h2 (by omega)) rfl rfl
    · rw [if_neg g, if_neg g, ru_origin ha1 ha2 hb1 hb2, za, zb]
      obtain ⟨c3, m3, g1, g2, g3, g4⟩ := S_note h2 1 (f_Mo_originOf sa oa sb ob)
      simp only [Option.bind_some, g1, g2]
      exact tail c3 m3 g3 (g4.1 _ (by omega)) (g4.1 _ (by omega))
  have hc : o = 29 ∨ o = 30 ∨ o = 31 ∨ o = 32 ∨ o = 33 ∨ o = 34 := by omega
  have l1 : ∀ {α : Type} (x y : α), (if 31 ≤ nI 29 then x else y) = y := fun x y => if_neg (by decide)
  rcases hc with rfl | rfl | rfl | rfl | rfl | rfl
  · obtain ⟨s, e1, e2⟩ := ru_eq (k0 := B + 34) (k1 := B + 35) (c := c2) (m := m) ha0 ha1 hb0 hb1 hf2 hf
    rw [if_neg (show ¬ 30 < nI 29 by decide), j0 29 _ (by omega), if_neg (show ¬ 31 ≤ nI 29 by decide), e2]
    simp only [Option.bind_some]
    exact gen (nI 15) 0 s (if va = vb then 1 else 0) (ru_sh15.trans e1) (by rw [ru_vl15]; by_cases g : va = vb <;> simp [g]) (fun m' => by unfold f_Mo_branch_J104; rw [if_pos (show nI 29 = 29 from rfl)]; split <;> rfl)
  · obtain ⟨s, e1, e2⟩ := ru_eq (k0 := B + 34) (k1 := B + 35) (c := c2) (m := m) ha0 ha1 hb0 hb1 hf2 hf
    rw [if_neg (show ¬ 30 < nI 30 by decide), j1 30 _ (by omega), if_neg (show ¬ 31 ≤ nI 30 by decide), e2]
    simp only [Option.bind_some]
    exact gen (nI 15) 1 s (if va = vb then 0 else 1) (ru_sh15.trans e1) (by rw [ru_vl15]; by_cases g : va = vb <;> simp [g]) (fun m' => by unfold f_Mo_branch_J104; rw [if_neg (show ¬ nI 30 = 29 by decide), if_pos (show nI 30 = 30 from rfl)]; split <;> rfl)
  · obtain ⟨s, e1, e2⟩ := ru_lt (k0 := B + 34) (k1 := B + 35) (c := c2) (m := m) ha0 ha1 hb0 hb1 hf2 hf (.inl ⟨rfl, rfl⟩)
    rw [if_pos (show 30 < nI 31 by decide), if_neg (show ¬ 32 < nI 31 by decide), j0 31 _ (by omega), if_pos (show 31 ≤ nI 31 by decide), if_neg (show ¬ 33 ≤ nI 31 by decide)]
    unfold f_Mo_branch_J70
    rw [e2]
    simp only [Option.bind_some]
    exact gen (nI 17) 0 s (if vb ≤ va then 0 else 1) (ru_sh17.trans e1) (by rw [ru_vl17]; by_cases g : vb ≤ va <;> simp [g]) (fun m' => by unfold f_Mo_branch_J104; rw [if_neg (show ¬ nI 31 = 29 by decide), if_neg (show ¬ nI 31 = 30 by decide), if_pos (show nI 31 = 31 from rfl)]; split <;> rfl)
  · obtain ⟨s, e1, e2⟩ := ru_lt (k0 := B + 34) (k1 := B + 35) (c := c2) (m := m) ha0 ha1 hb0 hb1 hf2 hf (.inl ⟨rfl, rfl⟩)
    rw [if_pos (show 30 < nI 32 by decide), if_neg (show ¬ 32 < nI 32 by decide), j1 32 _ (by omega), if_pos (show 31 ≤ nI 32 by decide), if_neg (show ¬ 33 ≤ nI 32 by decide)]
    unfold f_Mo_branch_J70
    rw [e2]
    simp only [Option.bind_some]
    have hv : ((if f_Ru_value (nI 17) va vb = 0 then (0 : Int32) else 1) ^^^ 1) = if va < vb then 0 else 1 := by
      rw [ru_vl17]
      by_cases g : vb ≤ va
      · rw [if_pos g, if_neg (Int32.not_lt.mpr g)]; rfl
      · rw [if_neg g, if_pos (Int32.not_le.mp g)]; rfl
    exact gen (nI 17) 1 s (if va < vb then 0 else 1) (ru_sh17.trans e1) hv (fun m' => by unfold f_Mo_branch_J104; rw [if_neg (show ¬ nI 32 = 29 by decide), if_neg (show ¬ nI 32 = 30 by decide), if_neg (show ¬ nI 32 = 31 by decide), if_pos (show nI 32 = 32 from rfl)]; split <;> rfl)
  · obtain ⟨s, e1, e2⟩ := ru_lt (k0 := B + 34) (k1 := B + 35) (c := c2) (m := m) ha0 ha1 hb0 hb1 hf2 hf (.inr ⟨rfl, rfl⟩)
    rw [if_pos (show 30 < nI 33 by decide), if_pos (show 32 < nI 33 by decide), j0 33 _ (by omega), if_pos (show 31 ≤ nI 33 by decide), if_pos (show 33 ≤ nI 33 by decide)]
    unfold f_Mo_branch_J70
    rw [e2]
    simp only [Option.bind_some]
    have hb01 : f_Mo_below va vb = 0 ∨ f_Mo_below va vb = 1 := by unfold f_Mo_below; split <;> simp
    exact gen (nI 18) 0 s (f_Mo_below va vb) (ru_sh18.trans e1) (by rw [ru_vl18, below_eq]; rcases hb01 with g | g <;> simp [g]) (fun m' => by unfold f_Mo_branch_J104; rw [if_neg (show ¬ nI 33 = 29 by decide), if_neg (show ¬ nI 33 = 30 by decide), if_neg (show ¬ nI 33 = 31 by decide), if_neg (show ¬ nI 33 = 32 by decide), if_pos (show nI 33 = 33 from rfl)])
  · obtain ⟨s, e1, e2⟩ := ru_lt (k0 := B + 34) (k1 := B + 35) (c := c2) (m := m) ha0 ha1 hb0 hb1 hf2 hf (.inr ⟨rfl, rfl⟩)
    rw [if_pos (show 30 < nI 34 by decide), if_pos (show 32 < nI 34 by decide), j1 34 _ (by omega), if_pos (show 31 ≤ nI 34 by decide), if_pos (show 33 ≤ nI 34 by decide)]
    unfold f_Mo_branch_J70
    rw [e2]
    simp only [Option.bind_some]
    exact gen (nI 18) 1 s (if f_Mo_below va vb = 0 then 1 else 0) (ru_sh18.trans e1) (by rw [ru_vl18, below_eq]; by_cases g : f_Mo_below va vb = 0 <;> simp [g]) (fun m' => by unfold f_Mo_branch_J104; rw [if_neg (show ¬ nI 34 = 29 by decide), if_neg (show ¬ nI 34 = 30 by decide), if_neg (show ¬ nI 34 = 31 by decide), if_neg (show ¬ nI 34 = 32 by decide), if_neg (show ¬ nI 34 = 33 by decide)]; split <;> rfl)
theorem o_jump {z B n i N P b o : Nat} {t : Int32} {c0 m0 c m : St} (h : SI z B n i N t c0 m0 c m) (hX : PX B P b i N o c0 m0) (he : c.1 B 11 = 0) (ho : 35 ≤ o) (ho2 : o ≤ 38) :
    ∃ c' m', f_Ma_jump B (nI o) c = some c' ∧ f_Mo_act (nI o) (nI (600 * b + 3 * i)) m = some m' ∧ SI z B n i N t c0 m0 c' m' := by
  have hz := RB_zb h.1
  have gz2 : ∀ {β : Type} (q : Option β), gd (nI z) 2 q = q := fun q => gd_nI hz (by omega)
  have kz : (nI z).toNatClampNeg = z := nI_clamp (by omega)
  obtain ⟨g5, e5, _⟩ := rd_5 h hX (j := 0) (by omega) (x := nI (600 * b + 3 * i)) rfl
  obtain ⟨a1, a2, a3, a4, a5, a6, a7, ⟨k, hk, a8, a8'⟩, a9, a10⟩ := h.2.2.2.2.2.2
  have e26 : m.1 26 z = nI k := (RB_eq h.1 (show phi z 0 16 = some (26, z) from rfl)).symm.trans a8
  have hc : o = 35 ∨ o = 36 ∨ o = 37 ∨ o = 38 := by omega
  rcases hc with rfl | rfl | rfl | rfl
  · obtain ⟨q, hq, hl⟩ := PX_L hX (j := 0) (by omega) rfl
    refine ⟨_, _, ?_, ?_, SI_next h hq⟩
    · unfold f_Ma_jump
      rw [if_pos (show nI 35 = 35 from rfl), rd_o h hX (j := 0) (by omega) (v := 0) rfl, hl.2]; rfl
    · unfold f_Mo_act
      rw [if_pos (show nI 35 = 35 from rfl), g5, RB_z h.1, gz2, kz, e5, hl.1]; rfl
  · obtain ⟨q, hq, hl⟩ := PX_L hX (j := 0) (by omega) rfl
    by_cases g : k = 32
    · obtain ⟨c4, m4, g1, g2, g3⟩ := S_trap h he (v := 3) (by omega)
      refine ⟨c4, m4, ?_, ?_, g3⟩
      · unfold f_Ma_jump
        rw [if_neg (show ¬ nI 36 = 35 by decide), if_pos (show nI 36 = 36 from rfl), a8, g, if_neg (by decide)]
        show (f_Ma_trap B (nI 3) c).bind _ = _
        rw [g1]; rfl
      · unfold f_Mo_act f_Mo_call
        rw [if_neg (show ¬ nI 36 = 35 by decide), if_pos (show nI 36 = 36 from rfl), g5, RB_z h.1, gz2, kz, e26, g, if_pos (by decide)]
        show (((f_Mo_trap (nI 3) m).bind _).bind _) = _
        rw [g2]; rfl
    · have hk2 : k < 32 := by omega
      obtain ⟨nx, hnx, a7'⟩ := a7
      have e20 : m.1 20 z = nI nx := (RB_eq h.1 (show phi z 0 10 = some (20, z) from rfl)).symm.trans a7'
      have hR1 : RB z B c0 m0 (uI c (B + 36) k (nI nx)) (uI m 25 (32 * z + k) (nI nx)) := RB_set h.1 (phi_call hk2) (by omega) (by unfold own; omega)
      have hR2 : RB z B c0 m0 (uI (uI c (B + 36) k (nI nx)) B 16 (nI (k + 1))) (uI (uI m 25 (32 * z + k) (nI nx)) 26 z (nI (k + 1))) := RB_set (d := 0) hR1 (show phi z 0 16 = some (26, z) from rfl) (by omega) (by unfold own; omega)
      have h2 : SI z B n i N t c0 m0 (uI (uI c (B + 36) k (nI nx)) B 16 (nI (k + 1))) (uI (uI m 25 (32 * z + k) (nI nx)) 26 z (nI (k + 1))) := by
        refine SI_Bof h (Nat.le_refl _) hR2 (fun k' h1 h2 => by rw [uI_n h1, uI_n (by omega)]) (by rw [uI_n (by omega), uI_n (by omega)]) (by rw [uI_n (by omega), uI_n (by omega)]) (by rw [uI_n (by omega), uI_n (by omega)]) ?_
        unfold IX
        have q : ∀ j, j ≠ 16 → (uI (uI c (B + 36) k (nI nx)) B 16 (nI (k + 1))).1 B j = c.1 B j := fun j hj => by rw [uI_o (by omega), uI_n (by omega)]
        rw [q 9 (by omega), q 8 (by omega), q 12 (by omega), q 11 (by omega), q 10 (by omega), q 14 (by omega), q 18 (by omega), uI_v, uI_n (show B + 36 ≠ B by omega), uI_n (show (0 : Nat) ≠ 26 by omega), uI_n (show (0 : Nat) ≠ 25 by omega), uI_n (show (22 : Nat) ≠ 26 by omega), uI_n (show (22 : Nat) ≠ 25 by omega)]
        refine ⟨a1, a2, a3, a4, a5, a6, ⟨nx, hnx, a7'⟩, ⟨k + 1, by omega, rfl, fun j hj => ?_⟩, a9, a10⟩
        by_cases ej : j = k
        · subst ej; exact ⟨nx, hnx, uI_v⟩
        · rw [uI_o (by omega)]; exact a8' j (by omega)
      refine ⟨_, _, ?_, ?_, SI_next h2 hq⟩
      · unfold f_Ma_jump
        rw [if_neg (show ¬ nI 36 = 35 by decide), if_pos (show nI 36 = 36 from rfl), a8, if_pos (show nI k < 32 from nI_lt (b := 32) hk2 (by decide)), gd_nI (by omega) (by omega), nI_clamp (by omega), a7']
        simp only [lt]
        rw [uI_n (show B ≠ B + 36 by omega), a8, nI_1, rd_o h2 hX (j := 0) (by omega) (v := 0) rfl, hl.2]; rfl
      · unfold f_Mo_act f_Mo_call
        rw [if_neg (show ¬ nI 36 = 35 by decide), if_pos (show nI 36 = 36 from rfl), g5, RB_z h.1, gz2, gz2, gz2, kz, e26, if_neg (show ¬ nI k = 32 from ne_l (k := 32) (by omega) (by omega) g), ix32, gd_nI (by omega) (by omega), nI_clamp (by omega), e20, e5, hl.1]
        simp only [lt]
        rw [uI_n (show (0 : Nat) ≠ 25 by omega), RB_z h.1, gz2, gz2, kz, uI_n (show (26 : Nat) ≠ 25 by omega), e26, nI_1, uI_n (show (0 : Nat) ≠ 26 by omega), uI_n (show (0 : Nat) ≠ 25 by omega), RB_z h.1, gz2, kz]; rfl
  · by_cases g : k = 0
    · subst g
      refine ⟨_, _, ?_, ?_, SI_end h⟩
      · unfold f_Ma_jump
        rw [if_neg (show ¬ nI 37 = 35 by decide), if_neg (show ¬ nI 37 = 36 by decide), if_pos (show nI 37 = 37 from rfl), a8, if_pos (by decide)]; rfl
      · unfold f_Mo_act
        rw [if_neg (show ¬ nI 37 = 35 by decide), if_neg (show ¬ nI 37 = 36 by decide), if_pos (show nI 37 = 37 from rfl), RB_z h.1, gz2, gz2, kz, e26, if_pos (by decide)]; rfl
    · obtain ⟨k', rfl⟩ : ∃ k', k = k' + 1 := ⟨k - 1, by omega⟩
      obtain ⟨q, hq, hcell⟩ := a8' k' (by omega)
      have e25 : m.1 25 (32 * z + k') = nI q := (RB_eq h.1 (phi_call (show k' < 32 by omega))).symm.trans hcell
      have hR2 : RB z B c0 m0 (uI c B 16 (nI k')) (uI m 26 z (nI k')) := RB_set (d := 0) h.1 (show phi z 0 16 = some (26, z) from rfl) (by omega) (by unfold own; omega)
      have h2 : SI z B n i N t c0 m0 (uI c B 16 (nI k')) (uI m 26 z (nI k')) := by
        refine SI_Bof h (Nat.le_refl _) hR2 (fun k' h1 h2 => uI_n h1) (by rw [uI_n (by omega)]) (uI_n (by omega)) (uI_n (by omega)) ?_
        unfold IX
        have q : ∀ j, j ≠ 16 → (uI c B 16 (nI k')).1 B j = c.1 B j := fun j hj => uI_o (by omega)
        rw [q 9 (by omega), q 8 (by omega), q 12 (by omega), q 11 (by omega), q 10 (by omega), q 14 (by omega), q 18 (by omega), uI_v, uI_n (show B + 36 ≠ B by omega), uI_n (show (0 : Nat) ≠ 26 by omega), uI_n (show (22 : Nat) ≠ 26 by omega)]
        exact ⟨a1, a2, a3, a4, a5, a6, a7, ⟨k', by omega, rfl, fun j hj => a8' j (by omega)⟩, a9, a10⟩
      refine ⟨_, _, ?_, ?_, SI_next h2 hq⟩
      · unfold f_Ma_jump
        rw [if_neg (show ¬ nI 37 = 35 by decide), if_neg (show ¬ nI 37 = 36 by decide), if_pos (show nI 37 = 37 from rfl), a8, if_neg (nI_ne0 (by omega) (by omega)), nI_pred]
        simp only [lt]
        rw [uI_v, gd_nI (by omega) (by omega), nI_clamp (by omega), uI_n (show B + 36 ≠ B by omega), hcell]
      · unfold f_Mo_act
        rw [if_neg (show ¬ nI 37 = 35 by decide), if_neg (show ¬ nI 37 = 36 by decide), if_pos (show nI 37 = 37 from rfl), RB_z h.1, gz2, gz2, gz2, gz2, kz, e26, if_neg (nI_ne0 (by omega) (by omega)), nI_pred]
        simp only [lt]
        rw [uI_n (show (0 : Nat) ≠ 26 by omega), RB_z h.1, gz2, gz2, kz, uI_v, ix32, gd_nI (by omega) (by omega), nI_clamp (by omega), uI_n (show (25 : Nat) ≠ 26 by omega), e25]
  · refine ⟨_, _, ?_, ?_, SI_end h⟩
    · unfold f_Ma_jump
      rw [if_neg (show ¬ nI 38 = 35 by decide), if_neg (show ¬ nI 38 = 36 by decide), if_neg (show ¬ nI 38 = 37 by decide)]; rfl
    · unfold f_Mo_act
      rw [if_neg (show ¬ nI 38 = 35 by decide), if_neg (show ¬ nI 38 = 36 by decide), if_neg (show ¬ nI 38 = 37 by decide), if_pos (show nI 38 = 38 from rfl), RB_z h.1, gz2, kz]; rfl
