/-! ===== labels found ===== -/
def UU (sg : Nat → Nat) (P b N nu : Nat) (ui : Nat → Nat) (c m : St) : Prop := nu ≤ N ∧ m.1 0 18 = nI nu ∧ (∀ u, u < nu → ui u < N ∧ UX sg P b (ui u) u c m) ∧ (∀ u v, u < v → v < nu → ui u < ui v) ∧ (∀ i, i < N → c.2.1 7 i ≠ 0 → ∃ u, u < nu ∧ ui u = i) ∧ (∀ i o j, i < N → o ≤ 50 → c.1 (P + 1) i = nI o → j < 3 → fm o j = 4 → c.2.1 7 i ≠ 0)
def RS (L : Nat) (sg : Nat → Nat) (P b N nl nu : Nat) (ui : Nat → Nat) (i : Nat) (c m : St) : Prop := TXM L sg m ∧ isP P ∧ b < 2 ∧ N ≤ 200 ∧ c.2.2 2 = P ∧ c.1 P 3 = nI N ∧ c.1 P 5 = 0 ∧ m.1 0 15 = nI N ∧ m.1 0 20 = 0 ∧ FLT c m ∧ (∀ i, i < N → PI P b c m i) ∧ LBL sg N nl c m ∧ UU sg P b N nu ui c m ∧ (∀ i' o j, i' < i → o ≤ 50 → c.1 (P + 1) i' = nI o → j < 3 → fm o j = 4 → ∃ t, t ≤ N ∧ kL c m P b i' j t)
theorem sh_7 : ∀ (o : Fin 51) (j : Fin 3), fm o.val j.val = 4 → tn (shp o.val) = j.val + 1 := by decide +kernel
section RESOLVE
variable {L : Nat} {sg : Nat → Nat} {P b : Nat} {c00 m00 : St} {N nl nu : Nat} {ui : Nat → Nat}
theorem rs_all : ∀ (r i u : Nat) (c m : St), i + r = N → RS L sg P b N nl nu ui i c m → u ≤ nu → (∀ v, v < u → ui v < i) → (∀ v, u ≤ v → v < nu → i ≤ ui v) → AFc P c00 c → AFw b m00 m →
    (∃ x y c' m', wh (fun a : (Int32 × St) => f_As_resolveLabels_L2 a.1 a.2) (nI i, c) = some (.inl (x, c')) ∧ wh (fun a : (Int32 × St) => f_Mo_assemble_L215 a.1 a.2) (nI u, m) = some (y, m') ∧ RS L sg P b N nl nu ui N c' m' ∧ AFc P c00 c' ∧ AFw b m00 m')
    ∨ (∃ y c' m', wh (fun a : (Int32 × St) => f_As_resolveLabels_L2 a.1 a.2) (nI i, c) = some (.inr (0, c')) ∧ wh (fun a : (Int32 × St) => f_Mo_assemble_L215 a.1 a.2) (nI u, m) = some (y, m') ∧ FLT c' m' ∧ 0 < m'.1 0 20 ∧ AFc P c00 c' ∧ AFw b m00 m') := by
  intro r
  induction r with
  | zero =>
    intro i u c m hi hS hu hv1 hv2 hc hm
    have hS' := hS
    obtain ⟨hT, hP, hb, hN, h2, h3, h5, h15, h20, hF, hPI, hL, ⟨u1, u2, u3, u4, u5, u6⟩, hD⟩ := hS
    obtain rfl : i = N := by omega
    have hun : u = nu := by
      by_cases h : u = nu
      · exact h
      · have a1 := (u3 u (by omega)).1
        have a2 := hv2 u (Nat.le_refl _) (by omega)
        omega
    refine .inl ⟨nI i, nI u, c, m, wh_inr ?_, wh_inr ?_, hS', hc, hm⟩
    · show f_As_resolveLabels_L2 (nI i) c = _
      unfold f_As_resolveLabels_L2
      rw [gP_e (by rw [h2]; exact hP), h2, h3, if_pos (nI_le (Nat.le_refl _) (by omega))]
    · show f_Mo_assemble_L215 (nI u) m = _
      unfold f_Mo_assemble_L215
      rw [u2, if_pos (nI_le (by omega) (by omega))]
  | succ r ih =>
    intro i u c m hi hS hu hv1 hv2 hc hm
    have hS' := hS
    obtain ⟨hT, hP, hb, hN, h2, h3, h5, h15, h20, hF, hPI, hL, hUU, hD⟩ := hS
    have hUU' := hUU
    obtain ⟨u1, u2, u3, u4, u5, u6⟩ := hUU
    have hPP : P = 10 ∨ P = 15 := hP
    have gp : ∀ {β : Type} (f : Nat → Option β), gP (c.2.2 2) f = f P := fun f => by rw [gP_e (by rw [h2]; exact hP), h2]
    by_cases hw : c.2.1 7 i = 0
    · -- no label here
      have eC : f_As_resolveLabels_L2 (nI i) c = some (.inl (nI (i + 1), c)) := by
        unfold f_As_resolveLabels_L2 f_As_resolveLabels_J90_1
        rw [gp, h3, if_neg (nI_ge (by omega) (by omega)), gd_nI (by omega) (by omega), nI_clamp (by omega), if_pos ((lg_cmp_eq _ _).mpr hw), nI_1]
      have hS2 : RS L sg P b N nl nu ui (i + 1) c m := by
        refine ⟨hT, hP, hb, hN, h2, h3, h5, h15, h20, hF, hPI, hL, hUU', fun i' o j hi' ho he hj hf => ?_⟩
        by_cases e : i' = i
        · rw [e] at he
          exact absurd hw (u6 i o j (by omega) ho he hj hf)
        · exact hD i' o j (by omega) ho he hj hf
      have ihh := ih (i + 1) u c m (by omega) hS2 hu (fun v hv => by have := hv1 v hv; omega) (fun v a d => by
        have x := hv2 v a d
        have y : ui v ≠ i := fun e => by
          obtain ⟨_, a', n', o', j', W, _, _, _, _, _, g7, _⟩ := u3 v d
          rw [e, hw] at g7
          have h1 := WD_pos W
          have h2 := WD_lt hT.2.2.2.2 W
          rw [show (0 : Int64) = lN 0 from rfl, lN_inj (by decide) h2] at g7
          omega
        omega) hc hm
      rw [wh_inl (a' := (nI (i + 1), c)) eC]
      exact ihh
    · obtain ⟨v, v1, v2⟩ := u5 i (by omega) hw
      have huv : v = u := by
        rcases Nat.lt_trichotomy v u with h | h | h
        · have := hv1 v h; omega
        · exact h
        · have a1 := hv2 u (Nat.le_refl _) (by omega)
          have a2 := u4 u v h v1
          omega
      subst huv
      obtain ⟨_, a, n, o, j, W, ha3, g9, g10, g11, g12, g7, g8, go, g1, gj, gf⟩ := u3 v v1
      rw [v2] at g11 g12 g7 g8 g1
      obtain ⟨rr, f1, f2, f3⟩ := find_eq hT hL W ha3
      have hn8 := W.2.1
      have hTT := sh_7 ⟨o, by omega⟩ ⟨j, gj⟩ gf
      simp only at hTT
      obtain ⟨hTs, _⟩ := sh_1 ⟨o, by omega⟩
      simp only at hTs
      have eC0 : f_As_resolveLabels_L2 (nI i) c = if rr = (-1) then ((f_As_refuse 4 (nI a) (c.1 9 i) c).bind fun q15 => some (.inr (.inr (0, q15)))) else gd rr 200 <| (f_Pr_setOperand P (nI i) (nI j) (c.1 6 rr.toNatClampNeg) c).bind fun q13 => some (.inl (nI (i + 1), q13)) := by
        unfold f_As_resolveLabels_L2 f_As_resolveLabels_J90_1
        rw [gp, h3, if_neg (nI_ge (by omega) (by omega)), gd_nI (by omega) (by omega), nI_clamp (by omega), if_neg (fun h => hw ((lg_cmp_eq _ _).mp h)), gd_nI (by omega) (by omega), g7, f1, Option.bind_some, gd_nI (by omega) (by omega), gd_nI (by omega) (by omega), g8, gp, gp, gd_nI (by omega) (by omega), g1]
        have e1 : f_Op_shapeOf (nI o) = shp o := rfl
        have e2 : tl (shp o) - 1 = nI j := by
          unfold tl
          rw [hTT, show (1 : Int32) = nI 1 from rfl, nI_sub (by omega), Nat.add_sub_cancel]
        rw [e1, if_pos hTs, e2, nI_1]
      obtain ⟨ml, hml⟩ : ∃ ml, ml = uI m 0 23 (c.1 9 i) := ⟨_, rfl⟩
      have mlk : ∀ k, k ≠ 0 → ml.1 k = m.1 k := fun k hk => by rw [hml, uI_n hk]
      have ml0 : ∀ x, x ≠ 23 → ml.1 0 x = m.1 0 x := fun x hx => by rw [hml, uI_o (by omega)]
      have eM0 : f_Mo_assemble_L215 (nI v) m = if 0 ≤ rr then (gd rr 201 <| lt (uI ml 5 (600 * b + 3 * i + j) (m.1 8 rr.toNatClampNeg)) fun s32 => some (.inl (nI (v + 1), s32))) else (f_Mo_fails 4 (nI a) ml).bind fun q33 => some (.inl (nI (v + 1), q33.2)) := by
        unfold f_Mo_assemble_L215 f_Mo_assemble_J293_1
        rw [u2, if_neg (nI_ge (by omega) (by omega)), if_pos h20, gd_nI (by omega) (by omega), gd_nI (by omega) (by omega), nI_clamp (by omega), g9, g10, f2, Option.bind_some, gd_nI (by omega) (by omega), g11, ← hml, lt_eq, mlk 12 (by omega), g12, mlk 8 (by omega), mlk 9 (by omega), g9, gd_nI (by omega) (by omega), gd_nI (by omega) (by omega), nI_clamp (by omega), nI_1]
        rw [gd_nI (n := v) (by omega) (by omega)]
      rcases f3 with hr1 | ⟨t, ht, hr1⟩
      · -- told nowhere
        subst hr1
        rw [if_pos rfl] at eC0
        rw [if_neg (by decide)] at eM0
        obtain ⟨cf, hcf⟩ : ∃ cf, cf = uI (uI (uI c 2 10 4) 2 11 (nI a)) 2 12 (c.1 9 i) := ⟨_, rfl⟩
        obtain ⟨mf, hmf⟩ : ∃ mf, mf = uI (uI (uI ml 0 20 4) 0 21 (nI a)) 0 22 (c.1 9 i) := ⟨_, rfl⟩
        have eCf : f_As_refuse 4 (nI a) (c.1 9 i) c = some cf := by
          unfold f_As_refuse
          rw [lt_eq, lt_eq, lt_eq, hcf]
        have eMf : f_Mo_fails 4 (nI a) ml = some (0, mf) := by
          unfold f_Mo_fails
          rw [ml0 20 (by omega), if_pos h20, lt_eq, lt_eq, lt_eq, uI_o (by omega), uI_o (by omega), hml, uI_v, ← hml, hmf]
        rw [eCf, Option.bind_some] at eC0
        rw [eMf, Option.bind_some] at eM0
        have mf20 : mf.1 0 20 = 4 := by rw [hmf, uI_o (by omega), uI_o (by omega), uI_v]
        refine .inr ⟨nI (v + 1), cf, mf, wh_inr eC0, (wh_inl (a' := (nI (v + 1), mf)) eM0).trans (wh_inr ?_), ⟨?_, ?_, ?_⟩, by rw [mf20]; decide, ?_, ?_⟩
        · show f_Mo_assemble_L215 (nI (v + 1)) mf = _
          unfold f_Mo_assemble_L215
          rw [mf20, if_neg (show ¬ (4 : Int32) = 0 by decide), ite_self]
        · rw [mf20, hcf, uI_o (by omega), uI_o (by omega), uI_v]
        · rw [hcf, uI_o (by omega), uI_v, hmf, uI_o (by omega), uI_v]
        · rw [hcf, uI_v, hmf, uI_v]
        · refine AFc_tr hc ⟨fun k x2 _ _ _ _ _ _ _ _ => by rw [hcf, uI_n x2, uI_n x2, uI_n x2], by rw [hcf]; rfl, fun q _ => by rw [hcf]; rfl⟩
        · rw [hmf, hml]; exact AFw_u (AFw_u (AFw_u (AFw_u hm (by omega)) (by omega)) (by omega)) (by omega)
      · -- found
        subst hr1
        obtain ⟨l1, l2, l3, l4⟩ := hL
        obtain ⟨_, _, tg, _, _, _, _, _, tgN, t6, t8⟩ := l4 t ht
        rw [if_neg (nI_nm1 (by omega)), gd_nI (by omega) (by omega), nI_clamp (by omega), t6, pr_set hPP (by omega) gj, Option.bind_some] at eC0
        rw [if_pos (nI_pos' (by omega)), gd_nI (by omega) (by omega), nI_clamp (by omega), t8, lt_eq] at eM0
        obtain ⟨cn, hcn⟩ : ∃ cn, cn = uI c (P + 2) (3 * i + j) (nI tg) := ⟨_, rfl⟩
        obtain ⟨mn, hmn⟩ : ∃ mn, mn = uI ml 5 (600 * b + 3 * i + j) (nI tg) := ⟨_, rfl⟩
        rw [← hcn] at eC0
        rw [← hmn] at eM0
        have cnk : ∀ k, k ≠ P + 2 → cn.1 k = c.1 k := fun k hk => by rw [hcn, uI_n hk]
        have cn2 : cn.2 = c.2 := by rw [hcn, uI_2]
        have cno : ∀ x, x ≠ 3 * i + j → cn.1 (P + 2) x = c.1 (P + 2) x := fun x hx => by rw [hcn, uI_o (by omega)]
        have mnk : ∀ k, k ≠ 0 → k ≠ 5 → mn.1 k = m.1 k := fun k h0 h5 => by rw [hmn, uI_n h5, mlk k h0]
        have mn0 : ∀ x, x ≠ 23 → mn.1 0 x = m.1 0 x := fun x hx => by rw [hmn, uI_n (by omega), ml0 x hx]
        have mno : ∀ x, x ≠ 600 * b + 3 * i + j → mn.1 5 x = m.1 5 x := fun x hx => by rw [hmn, uI_o (by omega), mlk 5 (by omega)]
        have hS2 : RS L sg P b N nl nu ui (i + 1) cn mn := by
          refine ⟨TXM_of hT (mn0 3 (by omega)) (mnk 2 (by omega) (by omega)), hP, hb, hN, by rw [cn2]; exact h2, by rw [cnk P (by omega)]; exact h3, by rw [cnk P (by omega)]; exact h5, (mn0 15 (by omega)).trans h15, (mn0 20 (by omega)).trans h20, ?_, fun i' hi' => ?_, LBL_of ⟨l1, l2, l3, l4⟩ (by rw [cnk 2 (by omega)]) (by rw [cn2]) (cnk 6 (by omega)) (mn0 17 (by omega)) (mnk 6 (by omega) (by omega)) (mnk 7 (by omega) (by omega)) (mnk 8 (by omega) (by omega)), ⟨u1, (mn0 18 (by omega)).trans u2, fun w hw' => ?_, u4, fun i' hi' hw' => u5 i' hi' (by rw [cn2] at hw'; exact hw'), fun i' o' j' hi' ho' he hj' hf' => by rw [cn2]; exact u6 i' o' j' hi' ho' (by rw [← cnk (P + 1) (by omega)]; exact he) hj' hf'⟩, fun i' o' j' hi' ho' he hj' hf' => ?_⟩
          · unfold FLT; rw [cnk 2 (by omega), mn0 20 (by omega), mn0 21 (by omega), mn0 22 (by omega)]; exact hF
          · obtain ⟨o', x1, x2, x3, x4⟩ := hPI i' hi'
            refine ⟨o', x1, by rw [cnk (P + 1) (by omega)]; exact x2, by rw [mnk 3 (by omega) (by omega)]; exact x3, fun j' hj' => ?_⟩
            by_cases ee : i' = i ∧ j' = j
            · obtain ⟨rfl, rfl⟩ := ee
              rw [g1] at x2
              have : o = o' := (nI_eq (by omega) (by omega)).mp x2
              rw [← this, gf]
              exact ⟨fun h => absurd h (by decide), fun h => absurd h (by decide), fun h => absurd h (by decide)⟩
            · exact kO3_of (x4 j' hj') (cno _ (by omega)) (by rw [cnk (P + 3) (by omega)]) (by rw [mnk 4 (by omega) (by omega)]) (mno _ (by omega))
          · obtain ⟨y0, a', n', o', j', y1, y2, y3, y4, y5, y6, y7, y8, y9, y10, y11⟩ := u3 w hw'
            exact ⟨y0, a', n', o', j', y1, y2, by rw [mnk 9 (by omega) (by omega)]; exact y3, by rw [mnk 10 (by omega) (by omega)]; exact y4, by rw [mnk 11 (by omega) (by omega), cnk 9 (by omega)]; exact y5, by rw [mnk 12 (by omega) (by omega)]; exact y6, by rw [cn2]; exact y7, by rw [cnk 8 (by omega)]; exact y8, y9, by rw [cnk (P + 1) (by omega)]; exact y10, y11⟩
          · rw [cnk (P + 1) (by omega)] at he
            by_cases ei : i' = i
            · subst ei
              rw [g1] at he
              have : o = o' := (nI_eq (by omega) (by omega)).mp he
              subst this
              have := fm_4 ⟨o, by omega⟩ ⟨j', by omega⟩ ⟨j, by omega⟩ hf' gf
              have ej : j' = j := congrArg Fin.val this
              subst ej
              exact ⟨tg, tgN, by rw [hmn, uI_v], by rw [hcn, uI_v]⟩
            · obtain ⟨t', z1, z2, z3⟩ := hD i' o' j' (by omega) ho' he hj' hf'
              exact ⟨t', z1, by rw [mno _ (by omega)]; exact z2, by rw [cno _ (by omega)]; exact z3⟩
        have ihh := ih (i + 1) (v + 1) cn mn (by omega) hS2 (by omega) (fun w hw' => by
          by_cases ew : w = v
          · rw [ew, v2]; omega
          · have := hv1 w (by omega); omega) (fun w a' d' => by
          have := u4 v w (by omega) d'
          omega) (AFc_tr hc ⟨fun k x2 x3 x6 x8 x9 y0 y1 y2 y3 => cnk k y2, by rw [cn2], fun q _ => by rw [cn2]⟩) (by
          have h0 : AFw b m00 ml := by rw [hml]; exact AFw_u hm (by omega)
          refine AFw_tr h0 ⟨fun k hk => by rw [hmn, uI_n (by omega)], by rw [hmn, uI_n (by omega)], by rw [hmn, uI_n (by omega)], fun x _ => by rw [hmn, uI_n (by omega)], fun x hx => ⟨by rw [hmn, uI_n (by omega)], by rw [hmn, uI_o (by omega)]⟩, fun x _ _ _ _ => by rw [hmn, uI_n (by omega)], by rw [hmn, uI_2]⟩)
        rw [wh_inl (f := fun a : (Int32 × St) => f_As_resolveLabels_L2 a.1 a.2) (a := (nI i, c)) (a' := (nI (i + 1), cn)) eC0, wh_inl (f := fun a : (Int32 × St) => f_Mo_assemble_L215 a.1 a.2) (a := (nI v, m)) (a' := (nI (v + 1), mn)) eM0]
        exact ihh
end RESOLVE
