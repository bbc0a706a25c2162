/-! ===== lost blocks: the reference's answer ===== -/
section LOST2
variable {k : Nat} {F S C : Nat → Nat} {c m : St}
theorem fl_first (hK : LK k F S C c m) : ∀ d n t, n + d = k + 1 → 1 ≤ n → ME m t → ∃ x t', wh (fun a : (Int32 × St) => f_Mo_findLost_L2 a.1 a.2) (nI n, t) = some (x, t') ∧ ME m t' ∧ (∀ n', n' < n → t'.1 48 n' = t.1 48 n') ∧ ∀ n', n ≤ n' → n' ≤ k → (C n' ≠ 2 → t'.1 48 n' = -1) ∧ (C n' = 2 → (t'.1 48 n' = 3 ∧ eg m F S 0 0 n') ∨ (t'.1 48 n' = 0 ∧ ¬ eg m F S 0 0 n')) := by
  have hk := hK.1
  have k34 : ∀ t, ME m t → t.1 34 (0 : Int32).toNatClampNeg = nI k := fun t ht => by rw [cl0, ht.1 34 (by omega)]; exact hK.2.2.1
  intro d
  induction d with
  | zero =>
    intro n t hn h1 ht
    obtain rfl : n = k + 1 := by omega
    refine ⟨nI (k + 1), t, wh_inr ?_, ht, fun _ _ => rfl, fun n' a b => by omega⟩
    show f_Mo_findLost_L2 (nI (k + 1)) t = _
    unfold f_Mo_findLost_L2
    rw [gd02, k34 t ht, if_pos (nI_lt (by omega) (by omega))]
  | succ d ih =>
    intro n t hn h1 ht
    obtain ⟨_, _, _, _, _, e30, _, _, c2'⟩ := hK.2.2.2.1 n h1 (by omega)
    rw [← ht.1 30 (by omega)] at e30
    have go : ∀ w, f_Mo_findLost_L2 (nI n) t = some (.inl (nI (n + 1), uI t 48 n w)) → ((C n ≠ 2 → w = -1) ∧ (C n = 2 → (w = 3 ∧ eg m F S 0 0 n) ∨ (w = 0 ∧ ¬ eg m F S 0 0 n))) → ∃ x t', wh (fun a : (Int32 × St) => f_Mo_findLost_L2 a.1 a.2) (nI n, t) = some (x, t') ∧ ME m t' ∧ (∀ n', n' < n → t'.1 48 n' = t.1 48 n') ∧ ∀ n', n ≤ n' → n' ≤ k → (C n' ≠ 2 → t'.1 48 n' = -1) ∧ (C n' = 2 → (t'.1 48 n' = 3 ∧ eg m F S 0 0 n') ∨ (t'.1 48 n' = 0 ∧ ¬ eg m F S 0 0 n')) := by
      intro w hw hp
      obtain ⟨x, t', f1, f2, f3, f4⟩ := ih (n + 1) (uI t 48 n w) (by omega) (by omega) (ME_48 ht)
      refine ⟨x, t', (wh_inl (a' := (nI (n + 1), uI t 48 n w)) hw).trans f1, f2, fun n' hn' => ?_, fun n' a b => ?_⟩
      · rw [f3 n' (by omega), v48, if_neg (by omega)]
      · by_cases e : n' = n
        · have e2 : t'.1 48 n = w := by rw [f3 n (by omega), v48, if_pos rfl]
          rw [e, e2]; exact hp
        · exact f4 n' (by omega) b
    have st : f_Mo_findLost_L2 (nI n) t = if C n = 2 then (f_Mo_leadsFromRoots (nI n) 0 t).bind fun q3 => if q3 = 0 then some (.inl (nI (n + 1), uI t 48 n 0)) else some (.inl (nI (n + 1), uI t 48 n 3)) else some (.inl (nI (n + 1), uI t 48 n (-1))) := by
      unfold f_Mo_findLost_L2 f_Mo_findLost_J45_1
      rw [gd02, k34 t ht, if_neg (nI_nlt (by omega) (by omega)), gd_nI (by omega) (by omega), nI_clamp (by omega), e30]
      simp only [gd_nI (show n < 101 by omega) (show 101 < 2 ^ 31 by omega), lt_eq, nI_1]
      by_cases h2 : C n = 2
      · rw [if_pos h2, h2, if_pos (show nI 2 = 2 from rfl)]
      · rw [if_neg h2, if_neg (show ¬ nI (C n) = 2 from ne_l (k := 2) (by omega) (by omega) h2)]
    by_cases h2 : C n = 2
    · rw [if_pos h2] at st
      obtain ⟨r1, r2⟩ := mo_roots hK ht h1 (show n ≤ k by omega) (f := 0) (.inl rfl)
      rw [nI_0] at r1 r2
      by_cases he : eg m F S 0 0 n
      · rw [r1 (eg_0 he), Option.bind_some, if_neg (by decide)] at st
        exact go 3 st ⟨fun h => absurd h2 h, fun _ => .inl ⟨rfl, he⟩⟩
      · rw [r2 (fun h => he (eg_rt h)), Option.bind_some, if_pos rfl] at st
        exact go 0 st ⟨fun h => absurd h2 h, fun _ => .inr ⟨rfl, he⟩⟩
    · rw [if_neg h2] at st
      exact go (-1) st ⟨fun _ => rfl, fun h => absurd h h2⟩
theorem fl_inside (hK : LK k F S C c m) : ∀ d n t, n + d = k + 1 → 1 ≤ n → ME m t → ∃ x t', wh (fun a : (Int32 × St) => f_Mo_findLost_L137 a.1 a.2) (nI n, t) = some (x, t') ∧ ME m t' ∧ (∀ n', n' < n → t'.1 48 n' = t.1 48 n') ∧ ∀ n', n ≤ n' → n' ≤ k → (t.1 48 n' = 0 ∧ eg m F S 1 0 n' ∧ t'.1 48 n' = 2) ∨ (¬ (t.1 48 n' = 0 ∧ eg m F S 1 0 n') ∧ t'.1 48 n' = t.1 48 n') := by
  have hk := hK.1
  have k34 : ∀ t, ME m t → t.1 34 (0 : Int32).toNatClampNeg = nI k := fun t ht => by rw [cl0, ht.1 34 (by omega)]; exact hK.2.2.1
  intro d
  induction d with
  | zero =>
    intro n t hn h1 ht
    obtain rfl : n = k + 1 := by omega
    refine ⟨nI (k + 1), t, wh_inr ?_, ht, fun _ _ => rfl, fun n' a b => by omega⟩
    show f_Mo_findLost_L137 (nI (k + 1)) t = _
    unfold f_Mo_findLost_L137
    rw [gd02, k34 t ht, if_pos (nI_lt (by omega) (by omega))]
  | succ d ih =>
    intro n t hn h1 ht
    obtain ⟨r1, r2⟩ := mo_roots hK ht h1 (show n ≤ k by omega) (f := 1) (.inr rfl)
    rw [show (nI 1 : Int32) = 1 from rfl] at r1 r2
    have st : f_Mo_findLost_L137 (nI n) t = if t.1 48 n = 0 then (f_Mo_leadsFromRoots (nI n) 1 t).bind fun q3 => if q3 = 0 then some (.inl (nI (n + 1), t)) else some (.inl (nI (n + 1), uI t 48 n 2)) else some (.inl (nI (n + 1), t)) := by
      unfold f_Mo_findLost_L137 f_Mo_findLost_J172_1
      rw [gd02, k34 t ht, if_neg (nI_nlt (by omega) (by omega)), gd_nI (by omega) (by omega), nI_clamp (by omega)]
      simp only [gd_nI (show n < 101 by omega) (show 101 < 2 ^ 31 by omega), lt_eq, nI_1]
    by_cases hy : t.1 48 n = 0 ∧ eg m F S 1 0 n
    · rw [if_pos hy.1, r1 (eg_0 hy.2), Option.bind_some, if_neg (by decide)] at st
      obtain ⟨x, t', f1, f2, f3, f4⟩ := ih (n + 1) (uI t 48 n 2) (by omega) (by omega) (ME_48 ht)
      refine ⟨x, t', (wh_inl (a' := (nI (n + 1), uI t 48 n 2)) st).trans f1, f2, fun n' hn' => ?_, fun n' a b => ?_⟩
      · rw [f3 n' (by omega), v48, if_neg (by omega)]
      · by_cases e : n' = n
        · have e2 : t'.1 48 n = 2 := by rw [f3 n (by omega), v48, if_pos rfl]
          rw [e]; exact .inl ⟨hy.1, hy.2, e2⟩
        · have := f4 n' (by omega) b
          rw [v48, if_neg e] at this; exact this
    · have st' : f_Mo_findLost_L137 (nI n) t = some (.inl (nI (n + 1), t)) := by
        rw [st]
        by_cases h0 : t.1 48 n = 0
        · rw [if_pos h0, r2 (fun h => hy ⟨h0, eg_rt h⟩), Option.bind_some, if_pos rfl]
        · rw [if_neg h0]
      obtain ⟨x, t', f1, f2, f3, f4⟩ := ih (n + 1) t (by omega) (by omega) ht
      refine ⟨x, t', (wh_inl (a' := (nI (n + 1), t)) st').trans f1, f2, fun n' hn' => f3 n' (by omega), fun n' a b => ?_⟩
      by_cases e : n' = n
      · rw [e]; exact .inr ⟨hy, f3 n (by omega)⟩
      · exact f4 n' (by omega) b
def c1 (m : St) (F S : Nat → Nat) (t : St) (j n : Nat) : Prop := j ≠ n ∧ (t.1 48 j = 0 ∨ t.1 48 j = 1) ∧ eg m F S 0 j n
theorem fl_beneath (hK : LK k F S C c m) {n : Nat} (n1 : 1 ≤ n) (nk : n ≤ k) : ∀ d j t, j + d = k + 1 → 1 ≤ j → ME m t → ∃ x t', wh (fun a : (Int32 × St) => f_Mo_findLost_L298_2 (nI n) a.1 a.2) (nI j, t) = some (x, t') ∧ ((t' = t ∧ (t.1 48 n = 0 → ∀ i, j ≤ i → i ≤ k → ¬ c1 m F S t i n)) ∨ (t.1 48 n = 0 ∧ (∃ i, 1 ≤ i ∧ i ≤ k ∧ c1 m F S t i n) ∧ t' = uI t 48 n 1)) := by
  have hk := hK.1
  have k34 : ∀ t, ME m t → t.1 34 (0 : Int32).toNatClampNeg = nI k := fun t ht => by rw [cl0, ht.1 34 (by omega)]; exact hK.2.2.1
  have en : ∀ t, ME m t → f_Mo_findLost_L298_2 (nI n) (nI (k + 1)) t = some (.inr (nI (k + 1), t)) := fun t ht => by
    unfold f_Mo_findLost_L298_2
    rw [gd02, k34 t ht, if_pos (nI_lt (by omega) (by omega))]
  have nz : ∀ j t, ME m t → 1 ≤ j → j ≤ k → t.1 48 n ≠ 0 → f_Mo_findLost_L298_2 (nI n) (nI j) t = some (.inr (nI j, t)) := fun j t ht j1 jk hz => by
    unfold f_Mo_findLost_L298_2
    rw [gd02, k34 t ht, if_neg (nI_nlt (by omega) (by omega)), gd_nI (by omega) (by omega), nI_clamp (by omega), if_neg hz]
  intro d
  induction d with
  | zero =>
    intro j t hj j1 ht
    obtain rfl : j = k + 1 := by omega
    exact ⟨_, t, wh_inr (en t ht), .inl ⟨rfl, fun _ i a b => by omega⟩⟩
  | succ d ih =>
    intro j t hj j1 ht
    by_cases hz : t.1 48 n = 0
    · obtain ⟨b1, b2⟩ := mo_block hK ht j1 (show j ≤ k by omega) n1 nk (f := 0) (.inl rfl)
      rw [nI_0] at b1 b2
      have st : f_Mo_findLost_L298_2 (nI n) (nI j) t = if j = n then some (.inl (nI (j + 1), t)) else if t.1 48 j = 0 ∨ t.1 48 j = 1 then (f_Mo_leadsFromBlock (nI j) (nI n) 0 t).bind fun q => if q = 0 then some (.inl (nI (j + 1), t)) else some (.inl (nI (j + 1), uI t 48 n 1)) else some (.inl (nI (j + 1), t)) := by
        unfold f_Mo_findLost_L298_2 f_Mo_findLost_J341_2 f_Mo_findLost_J358_2
        rw [gd02, k34 t ht, if_neg (nI_nlt (by omega) (by omega)), gd_nI (by omega) (by omega), nI_clamp (by omega), if_pos hz]
        simp only [gd_nI (show j < 101 by omega) (show 101 < 2 ^ 31 by omega), gd_nI (show n < 101 by omega) (show 101 < 2 ^ 31 by omega), nI_clamp (show j < 2 ^ 31 by omega), nI_clamp (show n < 2 ^ 31 by omega), lt_eq, nI_1]
        by_cases e : j = n
        · rw [if_pos e, if_pos (by rw [e])]
        · rw [if_neg e, if_neg (fun h => e ((nI_eq (by omega) (by omega)).mp h))]
          by_cases e0 : t.1 48 j = 0
          · rw [if_pos e0, if_pos (.inl e0)]
          · rw [if_neg e0]
            by_cases e1 : t.1 48 j = 1
            · rw [if_pos e1, if_pos (.inr e1)]
            · rw [if_neg e1, if_neg (fun h => h.elim e0 e1)]
      by_cases hc : c1 m F S t j n
      · rw [if_neg hc.1, if_pos hc.2.1, b1 hc.2.2, Option.bind_some, if_neg (by decide)] at st
        refine ⟨nI (j + 1), uI t 48 n 1, (wh_inl (a' := (nI (j + 1), uI t 48 n 1)) st).trans (wh_inr ?_), .inr ⟨hz, ⟨j, j1, by omega, hc⟩, rfl⟩⟩
        by_cases e : j + 1 ≤ k
        · exact nz (j + 1) _ (ME_48 ht) (by omega) e (by rw [v48, if_pos rfl]; decide)
        · obtain rfl : j = k := by omega
          exact en _ (ME_48 ht)
      · have st' : f_Mo_findLost_L298_2 (nI n) (nI j) t = some (.inl (nI (j + 1), t)) := by
          rw [st]
          by_cases e : j = n
          · rw [if_pos e]
          · rw [if_neg e]
            by_cases e2 : t.1 48 j = 0 ∨ t.1 48 j = 1
            · rw [if_pos e2, b2 (fun h => hc ⟨e, e2, h⟩), Option.bind_some, if_pos rfl]
            · rw [if_neg e2]
        obtain ⟨x, t', f1, f2⟩ := ih (j + 1) t (by omega) (by omega) ht
        refine ⟨x, t', (wh_inl (a' := (nI (j + 1), t)) st').trans f1, ?_⟩
        rcases f2 with ⟨a, b⟩ | f2
        · refine .inl ⟨a, fun h0 i i1 i2 => ?_⟩
          by_cases e : i = j
          · rw [e]; exact hc
          · exact b h0 i (by omega) i2
        · exact .inr f2
    · exact ⟨nI j, t, wh_inr (nz j t ht j1 (by omega) hz), .inl ⟨rfl, fun h => absurd h hz⟩⟩
def i3 (k : Nat) (F S C : Nat → Nat) (m t : St) : Prop := ∀ n, 1 ≤ n → n ≤ k → (C n ≠ 2 → t.1 48 n = -1) ∧ (C n = 2 → (t.1 48 n = 3 ∧ r3 (Uu k C) (eg m F S) n) ∨ (t.1 48 n = 2 ∧ r2 (Uu k C) (eg m F S) n ∧ ¬ r3 (Uu k C) (eg m F S) n) ∨ (t.1 48 n = 1 ∧ r1 (Uu k C) (eg m F S) n ∧ ¬ r2 (Uu k C) (eg m F S) n ∧ ¬ r3 (Uu k C) (eg m F S) n) ∨ (t.1 48 n = 0 ∧ ¬ r2 (Uu k C) (eg m F S) n ∧ ¬ r3 (Uu k C) (eg m F S) n))
theorem i3_c1 {t : St} (h : i3 k F S C m t) {j n : Nat} (j1 : 1 ≤ j) (jk : j ≤ k) : (j ≠ n ∧ Uu k C j ∧ ¬ r3 (Uu k C) (eg m F S) j ∧ ¬ r2 (Uu k C) (eg m F S) j ∧ eg m F S 0 j n) ↔ c1 m F S t j n := by
  obtain ⟨h1, h2⟩ := h j j1 jk
  constructor
  · rintro ⟨a, b, d, e, f⟩
    refine ⟨a, ?_, f⟩
    rcases h2 b.2.2 with ⟨_, g⟩ | ⟨_, g, _⟩ | ⟨g, _⟩ | ⟨g, _⟩
    · exact absurd g d
    · exact absurd g e
    · exact .inr g
    · exact .inl g
  · rintro ⟨a, b, d⟩
    have hC : C j = 2 := Classical.byContradiction fun hC => by
      have := h1 hC
      rw [this] at b
      rcases b with b | b <;> exact absurd b (by decide)
    rcases h2 hC with ⟨g, _⟩ | ⟨g, _⟩ | ⟨_, _, g, g'⟩ | ⟨_, g, g'⟩
    · rw [g] at b; rcases b with b | b <;> exact absurd b (by decide)
    · rw [g] at b; rcases b with b | b <;> exact absurd b (by decide)
    · exact ⟨a, ⟨j1, jk, hC⟩, g', g, d⟩
    · exact ⟨a, ⟨j1, jk, hC⟩, g', g, d⟩
theorem fl_last (hK : LK k F S C c m) : ∀ d n t, n + d = k + 1 → 1 ≤ n → ME m t → i3 k F S C m t → (∀ n', 1 ≤ n' → n' < n → t.1 48 n' = 0 → ¬ r1 (Uu k C) (eg m F S) n') → ∃ x t', wh (fun a : (Int32 × St) => f_Mo_findLost_L286 a.1 a.2) (nI n, t) = some (x, t') ∧ ME m t' ∧ i3 k F S C m t' ∧ ∀ n', 1 ≤ n' → n' ≤ k → t'.1 48 n' = 0 → ¬ r1 (Uu k C) (eg m F S) n' := by
  have hk := hK.1
  have k34 : ∀ t, ME m t → t.1 34 (0 : Int32).toNatClampNeg = nI k := fun t ht => by rw [cl0, ht.1 34 (by omega)]; exact hK.2.2.1
  intro d
  induction d with
  | zero =>
    intro n t hn h1 ht hi hp
    obtain rfl : n = k + 1 := by omega
    refine ⟨nI (k + 1), t, wh_inr ?_, ht, hi, fun n' a b => hp n' a (by omega)⟩
    show f_Mo_findLost_L286 (nI (k + 1)) t = _
    unfold f_Mo_findLost_L286
    rw [gd02, k34 t ht, if_pos (nI_lt (by omega) (by omega))]
  | succ d ih =>
    intro n t hn h1 ht hi hp
    obtain ⟨x, t', e1, e2⟩ := fl_beneath hK h1 (show n ≤ k by omega) k 1 t (by omega) (by omega) ht
    have st : f_Mo_findLost_L286 (nI n) t = some (.inl (nI (n + 1), t')) := by
      unfold f_Mo_findLost_L286
      rw [gd02, k34 t ht, if_neg (nI_nlt (by omega) (by omega)), show (1 : Int32) = nI 1 from rfl, e1, Option.bind_some, show (nI 1 : Int32) = 1 from rfl, nI_1]
    rcases e2 with ⟨rfl, e2⟩ | ⟨hz, ⟨i, a1, a2, a3⟩, rfl⟩
    · obtain ⟨x2, t2, f1, f2⟩ := ih (n + 1) t' (by omega) (by omega) ht hi (fun n' b1 b2 hz hr => by
        by_cases e : n' = n
        · subst e
          obtain ⟨j, hj⟩ := hr
          exact e2 hz j hj.2.1.1 hj.2.1.2.1 ((i3_c1 hi hj.2.1.1 hj.2.1.2.1).mp hj)
        · exact hp n' b1 (by omega) hz hr)
      exact ⟨x2, t2, (wh_inl (a' := (nI (n + 1), t')) st).trans f1, f2⟩
    · have hcn := hi n h1 (by omega)
      have hC : C n = 2 := Classical.byContradiction fun hC => by
        have := hcn.1 hC
        rw [hz] at this; exact absurd this (by decide)
      have hno : ¬ r2 (Uu k C) (eg m F S) n ∧ ¬ r3 (Uu k C) (eg m F S) n := by
        rcases hcn.2 hC with ⟨g, _⟩ | ⟨g, _⟩ | ⟨g, _⟩ | ⟨_, g⟩
        · rw [hz] at g; exact absurd g (by decide)
        · rw [hz] at g; exact absurd g (by decide)
        · rw [hz] at g; exact absurd g (by decide)
        · exact g
      have hr : r1 (Uu k C) (eg m F S) n := ⟨i, (i3_c1 hi a1 a2).mpr a3⟩
      obtain ⟨x2, t2, f1, f2⟩ := ih (n + 1) (uI t 48 n 1) (by omega) (by omega) (ME_48 ht) (fun n' b1 b2 => by
        rw [v48]
        by_cases e : n' = n
        · rw [if_pos e, e]
          exact ⟨fun h => absurd hC h, fun _ => .inr (.inr (.inl ⟨rfl, hr, hno.1, hno.2⟩))⟩
        · rw [if_neg e]; exact hi n' b1 b2) (fun n' b1 b2 hz' => by
        rw [v48] at hz'
        by_cases e : n' = n
        · rw [if_pos e] at hz'; exact absurd hz' (by decide)
        · rw [if_neg e] at hz'; exact hp n' b1 (by omega) hz')
      exact ⟨x2, t2, (wh_inl (a' := (nI (n + 1), uI t 48 n 1)) st).trans f1, f2⟩
theorem mo_lost (hK : LK k F S C c m) : ∃ t, f_Mo_findLost m = some t ∧ ME m t ∧ ∀ n, 1 ≤ n → n ≤ k → (C n ≠ 2 → t.1 48 n = -1) ∧ (C n = 2 → VR (Uu k C) (eg m F S) n (t.1 48 n)) := by
  obtain ⟨x1, t1, a1, a2, _, a4⟩ := fl_first hK k 1 m (by omega) (by omega) ME_rf
  obtain ⟨x2, t2, b1, b2, b3, b4⟩ := fl_pass3 hK (fun t => ∀ n, 1 ≤ n → n ≤ k → (C n ≠ 2 → t.1 48 n = -1) ∧ (C n = 2 → t.1 48 n = 0 ∨ (t.1 48 n = 3 ∧ r3 (Uu k C) (eg m F S) n)) ∧ (C n = 2 → eg m F S 0 0 n → t.1 48 n = 3))
    (fun t n i ht hI n1 nk i1' ik hz hc n' b1 b2 => by
      rw [v48]
      by_cases e : n' = n
      · rw [if_pos e, e]
        have hCn : C n = 2 := Classical.byContradiction fun h => by
          have := (hI n n1 nk).1 h
          rw [hz] at this; exact absurd this (by decide)
        have hCi : C i = 2 := Classical.byContradiction fun h => by
          have := (hI i i1' ik).1 h
          rw [hc.1] at this; exact absurd this (by decide)
        have hri : r3 (Uu k C) (eg m F S) i := by
          rcases (hI i i1' ik).2.1 hCi with h | h
          · rw [hc.1] at h; exact absurd h (by decide)
          · exact h.2
        exact ⟨fun h => absurd hCn h, fun _ => .inr ⟨rfl, r3_step hri ⟨n1, nk, hCn⟩ hc.2⟩, fun _ _ => rfl⟩
      · rw [if_neg e]; exact hI n' b1 b2) a2
    (fun n n1 nk => by
      obtain ⟨p1, p2⟩ := a4 n n1 nk
      refine ⟨p1, fun h => ?_, fun h he => ?_⟩
      · rcases p2 h with ⟨q, e⟩ | ⟨q, _⟩
        · exact .inr ⟨q, r3_root ⟨n1, nk, h⟩ e⟩
        · exact .inl q
      · rcases p2 h with ⟨q, e⟩ | ⟨q, e⟩
        · exact q
        · exact absurd he e)
  have d3 : ∀ n, r3 (Uu k C) (eg m F S) n → Uu k C n ∧ t2.1 48 n = 3 := by
    intro n hn
    refine hn (fun n => Uu k C n ∧ t2.1 48 n = 3) (fun n hu he => ⟨hu, (b3 n hu.1 hu.2.1).2.2 hu.2.2 he⟩) (fun j n hj hu he => ⟨hu, ?_⟩)
    rcases (b3 n hu.1 hu.2.1).2.1 hu.2.2 with h | h
    · exact absurd ⟨hj.2, he⟩ (b4 n hu.1 hu.2.1 h j hj.1.1 hj.1.2.1)
    · exact h.1
  have z3 : ∀ n, 1 ≤ n → n ≤ k → t2.1 48 n = 0 → Uu k C n ∧ ¬ r3 (Uu k C) (eg m F S) n := by
    intro n n1 nk hz
    refine ⟨⟨n1, nk, Classical.byContradiction fun h => ?_⟩, fun h => ?_⟩
    · have := (b3 n n1 nk).1 h
      rw [hz] at this; exact absurd this (by decide)
    · have := (d3 n h).2
      rw [hz] at this; exact absurd this (by decide)
  obtain ⟨x3, t3, e1, e2, _, e4⟩ := fl_inside hK k 1 t2 (by omega) (by omega) b2
  obtain ⟨x4, t4, f1, f2, f3, f4⟩ := fl_pass2 hK (fun t => ∀ n, 1 ≤ n → n ≤ k → (C n ≠ 2 → t.1 48 n = -1) ∧ (C n = 2 → (t.1 48 n = 0 ∧ ¬ r3 (Uu k C) (eg m F S) n) ∨ (t.1 48 n = 3 ∧ r3 (Uu k C) (eg m F S) n) ∨ (t.1 48 n = 2 ∧ r2 (Uu k C) (eg m F S) n)) ∧ (C n = 2 → eg m F S 1 0 n → t.1 48 n ≠ 0))
    (fun t n i ht hI n1 nk i1' ik hz hc n' b1 b2 => by
      rw [v48]
      by_cases e : n' = n
      · rw [if_pos e, e]
        have hCn : C n = 2 := Classical.byContradiction fun h => by
          have := (hI n n1 nk).1 h
          rw [hz] at this; exact absurd this (by decide)
        have hn3 : ¬ r3 (Uu k C) (eg m F S) n := by
          rcases (hI n n1 nk).2.1 hCn with h | ⟨h, _⟩ | ⟨h, _⟩
          · exact h.2
          · rw [hz] at h; exact absurd h (by decide)
          · rw [hz] at h; exact absurd h (by decide)
        have hCi : C i = 2 := Classical.byContradiction fun h => by
          have h1 := (hI i i1' ik).1 h
          have h2 := hc.1
          rw [h1] at h2; exact absurd h2 (by decide)
        have hU : Uu k C n := ⟨n1, nk, hCn⟩
        refine ⟨fun h => absurd hCn h, fun _ => .inr (.inr ⟨rfl, ?_⟩), fun _ _ => by decide⟩
        rcases (hI i i1' ik).2.1 hCi with ⟨h, _⟩ | ⟨h, h3⟩ | ⟨_, h⟩
        · have h2 := hc.1
          rw [h] at h2; exact absurd h2 (by decide)
        · rcases hc.2 with g | ⟨g, _⟩
          · exact r2_three h3 hU hn3 g
          · rw [h] at g; exact absurd g (by decide)
        · exact r2_step h hU hn3 (hc.2.elim .inl (fun g => .inr g.2))
      · rw [if_neg e]; exact hI n' b1 b2) e2
    (fun n n1 nk => by
      have hb := b3 n n1 nk
      rcases e4 n n1 nk with ⟨g1, g2, g3⟩ | ⟨g1, g2⟩
      · obtain ⟨hU, hn3⟩ := z3 n n1 nk g1
        rw [g3]
        exact ⟨fun h => absurd hU.2.2 h, fun _ => .inr (.inr ⟨rfl, r2_root hU hn3 g2⟩), fun _ _ => by decide⟩
      · rw [g2]
        refine ⟨hb.1, fun h => ?_, fun h he hz => g1 ⟨hz, he⟩⟩
        rcases hb.2.1 h with q | q
        · exact .inl ⟨q, (z3 n n1 nk q).2⟩
        · exact .inr (.inl q))
  have d2 : ∀ n, r2 (Uu k C) (eg m F S) n → Uu k C n ∧ ¬ r3 (Uu k C) (eg m F S) n ∧ t4.1 48 n = 2 := by
    intro n hn
    have nz : ∀ n, Uu k C n → ¬ r3 (Uu k C) (eg m F S) n → t4.1 48 n ≠ 0 → t4.1 48 n = 2 := by
      intro n hu h3 hz
      rcases (f3 n hu.1 hu.2.1).2.1 hu.2.2 with h | ⟨_, h⟩ | ⟨h, _⟩
      · exact absurd h.1 hz
      · exact absurd h h3
      · exact h
    have v3 : ∀ j, r3 (Uu k C) (eg m F S) j → t4.1 48 j = 3 := by
      intro j hj
      have hu := r3_U hj
      rcases (f3 j hu.1 hu.2.1).2.1 hu.2.2 with h | ⟨h, _⟩ | ⟨_, h⟩
      · exact absurd hj h.2
      · exact h
      · exact absurd hj (r2_U h).2
    refine hn (fun n => Uu k C n ∧ ¬ r3 (Uu k C) (eg m F S) n ∧ t4.1 48 n = 2) (fun n hu h3 he => ⟨hu, h3, nz n hu h3 ((f3 n hu.1 hu.2.1).2.2 hu.2.2 he)⟩) (fun j n hj hu h3 he => ⟨hu, h3, nz n hu h3 (fun hz => ?_)⟩) (fun j n hj hu h3 he => ⟨hu, h3, nz n hu h3 (fun hz => ?_)⟩)
    · have huj := r3_U hj
      exact f4 n hu.1 hu.2.1 hz j huj.1 huj.2.1 ⟨by rw [v3 j hj]; decide, .inl he⟩
    · refine f4 n hu.1 hu.2.1 hz j hj.1.1 hj.1.2.1 ⟨by rw [hj.2.2]; decide, ?_⟩
      rcases he with he | he
      · exact .inl he
      · exact .inr ⟨hj.2.2, he⟩
  have I4 : i3 k F S C m t4 := by
    intro n n1 nk
    refine ⟨(f3 n n1 nk).1, fun h => ?_⟩
    rcases (f3 n n1 nk).2.1 h with ⟨g1, g2⟩ | ⟨g1, g2⟩ | ⟨g1, g2⟩
    · refine .inr (.inr (.inr ⟨g1, fun h2 => ?_, g2⟩))
      have := (d2 n h2).2.2
      rw [g1] at this; exact absurd this (by decide)
    · exact .inl ⟨g1, g2⟩
    · exact .inr (.inl ⟨g1, g2, (r2_U g2).2⟩)
  obtain ⟨x5, t5, g1, g2, g3, g4⟩ := fl_last hK k 1 t4 (by omega) (by omega) f2 I4 (fun n' a b => by omega)
  refine ⟨t5, ?_, g2, fun n n1 nk => ⟨(g3 n n1 nk).1, fun h => ?_⟩⟩
  · unfold f_Mo_findLost
    rw [show (nI 1 : Int32) = 1 from rfl] at a1 e1 g1
    rw [a1, Option.bind_some]
    dsimp only
    rw [b1, Option.bind_some]
    dsimp only
    rw [e1, Option.bind_some]
    dsimp only
    rw [f1, Option.bind_some]
    dsimp only
    rw [g1, Option.bind_some]
  · rcases (g3 n n1 nk).2 h with q | q | q | ⟨q, q2, q3⟩
    · exact .inl q
    · exact .inr (.inl q)
    · exact .inr (.inr (.inl q))
    · exact .inr (.inr (.inr ⟨q, g4 n n1 nk q, q2, q3⟩))
end LOST2
