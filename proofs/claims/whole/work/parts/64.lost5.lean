/-! ===== lost blocks: the reference's passes ===== -/
theorem ME_rf {m : St} : ME m m := ⟨fun _ _ => rfl, rfl⟩
theorem ME_48 {m t : St} (h : ME m t) {n : Nat} {v : Int32} : ME m (uI t 48 n v) := ⟨fun k hk => by rw [uI_n hk]; exact h.1 k hk, h.2⟩
theorem v48 {t : St} {n x : Nat} {v : Int32} : (uI t 48 n v).1 48 x = if x = n then v else t.1 48 x := by
  rw [uI_g2]
  by_cases e : x = n
  · rw [if_pos ⟨rfl, e⟩, if_pos e]
  · rw [if_neg (fun h => e h.2), if_neg e]
def zc (k : Nat) (t : St) : Nat := sm (fun n => if t.1 48 n = 0 then 1 else 0) k
theorem zc_set {k : Nat} {t : St} {n : Nat} {w : Int32} (h1 : 1 ≤ n) (hn : n ≤ k) (hz : t.1 48 n = 0) (hw : w ≠ 0) : zc k (uI t 48 n w) < zc k t := by
  have e := sm_upd (f := fun x => if t.1 48 x = 0 then 1 else 0) (j := n) (v := 0) (n := k) h1 hn
  have e2 : zc k (uI t 48 n w) = sm (fun i => if i = n then 0 else if t.1 48 i = 0 then 1 else 0) k := by
    refine sm_congr (fun j _ _ => ?_)
    show (if (uI t 48 n w).1 48 j = 0 then 1 else 0) = _
    rw [v48]
    by_cases e : j = n
    · rw [if_pos e, if_pos e, if_neg hw]
    · rw [if_neg e, if_neg e]
  have e3 : (if t.1 48 n = 0 then 1 else 0) = 1 := if_pos hz
  rw [e2]
  simp only [e3] at e
  unfold zc
  omega
section PASS
variable {k : Nat} {m : St}
theorem fl_inner {Fn : Int32 × Int32 × St → Option ((Int32 × Int32 × St) ⊕ (Int32 × Int32 × St))} {n : Nat} {w : Int32} (cond : St → Nat → Prop) (hw : w ≠ 0)
    (hend : ∀ o t, ME m t → Fn (o, nI (k + 1), t) = some (.inr (o, nI (k + 1), t)))
    (hnz : ∀ o j t, ME m t → 1 ≤ j → j ≤ k → t.1 48 n ≠ 0 → Fn (o, nI j, t) = some (.inr (o, nI j, t)))
    (hyes : ∀ o j t, ME m t → 1 ≤ j → j ≤ k → t.1 48 n = 0 → cond t j → Fn (o, nI j, t) = some (.inl (1, nI (j + 1), uI t 48 n w)))
    (hno : ∀ o j t, ME m t → 1 ≤ j → j ≤ k → t.1 48 n = 0 → ¬ cond t j → Fn (o, nI j, t) = some (.inl (o, nI (j + 1), t))) :
    ∀ d j, j + d = k + 1 → 1 ≤ j → ∀ o t, ME m t → ∃ o' x t', wh Fn (o, nI j, t) = some (o', x, t') ∧ ((t' = t ∧ o' = o ∧ (t.1 48 n = 0 → ∀ i, j ≤ i → i ≤ k → ¬ cond t i)) ∨ (t.1 48 n = 0 ∧ (∃ i, 1 ≤ i ∧ i ≤ k ∧ cond t i) ∧ t' = uI t 48 n w ∧ o' = 1)) := by
  intro d
  induction d with
  | zero =>
    intro j hj h1 o t ht
    obtain rfl : j = k + 1 := by omega
    exact ⟨o, _, t, wh_inr (hend o t ht), .inl ⟨rfl, rfl, fun _ i a b => by omega⟩⟩
  | succ d ih =>
    intro j hj h1 o t ht
    by_cases hz : t.1 48 n = 0
    · by_cases hc : cond t j
      · refine ⟨1, nI (j + 1), uI t 48 n w, (wh_inl (hyes o j t ht h1 (by omega) hz hc)).trans (wh_inr ?_), .inr ⟨hz, ⟨j, h1, by omega, hc⟩, rfl, rfl⟩⟩
        by_cases e : j + 1 ≤ k
        · exact hnz 1 (j + 1) _ (ME_48 ht) (by omega) e (by rw [v48, if_pos rfl]; exact hw)
        · obtain rfl : j = k := by omega
          exact hend 1 _ (ME_48 ht)
      · obtain ⟨o', x, t', e1, e2⟩ := ih (j + 1) (by omega) (by omega) o t ht
        refine ⟨o', x, t', (wh_inl (hno o j t ht h1 (by omega) hz hc)).trans e1, ?_⟩
        rcases e2 with ⟨a, b, d⟩ | e2
        · refine .inl ⟨a, b, fun h0 i i1 i2 => ?_⟩
          by_cases e : i = j
          · rw [e]; exact hc
          · exact d h0 i (by omega) i2
        · exact .inr e2
    · exact ⟨o, nI j, t, wh_inr (hnz o j t ht h1 (by omega) hz), .inl ⟨rfl, rfl, fun h => absurd h hz⟩⟩
theorem fl_mid {Gn : Int32 × Int32 × St → Option ((Int32 × Int32 × St) ⊕ (Int32 × Int32 × St))} {w : Int32} (cond : St → Nat → Nat → Prop) (hw : w ≠ 0)
    (hG1 : ∀ o t, ME m t → Gn (o, nI (k + 1), t) = some (.inr (o, nI (k + 1), t)))
    (hG2 : ∀ o n t, ME m t → 1 ≤ n → n ≤ k → ∃ o' t', Gn (o, nI n, t) = some (.inl (o', nI (n + 1), t')) ∧ ((t' = t ∧ o' = o ∧ (t.1 48 n = 0 → ∀ i, 1 ≤ i → i ≤ k → ¬ cond t i n)) ∨ (t.1 48 n = 0 ∧ (∃ i, 1 ≤ i ∧ i ≤ k ∧ cond t i n) ∧ t' = uI t 48 n w ∧ o' = 1)))
    (I : St → Prop) (hI : ∀ t n i, ME m t → I t → 1 ≤ n → n ≤ k → 1 ≤ i → i ≤ k → t.1 48 n = 0 → cond t i n → I (uI t 48 n w)) :
    ∀ d n, n + d = k + 1 → 1 ≤ n → ∀ o t, ME m t → I t → ∃ o' x t', wh Gn (o, nI n, t) = some (o', x, t') ∧ ME m t' ∧ I t' ∧ ((t' = t ∧ o' = o ∧ ∀ n', n ≤ n' → n' ≤ k → t.1 48 n' = 0 → ∀ i, 1 ≤ i → i ≤ k → ¬ cond t i n') ∨ (o' = 1 ∧ zc k t' < zc k t)) := by
  intro d
  induction d with
  | zero =>
    intro n hn h1 o t ht hi
    obtain rfl : n = k + 1 := by omega
    exact ⟨o, _, t, wh_inr (hG1 o t ht), ht, hi, .inl ⟨rfl, rfl, fun n' a b => by omega⟩⟩
  | succ d ih =>
    intro n hn h1 o t ht hi
    obtain ⟨o1, t1, e1, e2⟩ := hG2 o n t ht h1 (by omega)
    rcases e2 with ⟨rfl, rfl, e2⟩ | ⟨hz, ⟨i, i1, i2, i3⟩, rfl, rfl⟩
    · obtain ⟨o', x, t', f1, f2, f3, f4⟩ := ih (n + 1) (by omega) (by omega) o1 t1 ht hi
      refine ⟨o', x, t', (wh_inl e1).trans f1, f2, f3, ?_⟩
      rcases f4 with ⟨a, b, g⟩ | f4
      · refine .inl ⟨a, b, fun n' a1 a2 a3 => ?_⟩
        by_cases e : n' = n
        · subst e; exact e2 a3
        · exact g n' (by omega) a2 a3
      · exact .inr f4
    · have hz2 := zc_set (k := k) h1 (by omega) hz hw
      obtain ⟨o', x, t', f1, f2, f3, f4⟩ := ih (n + 1) (by omega) (by omega) 1 (uI t 48 n w) (ME_48 ht) (hI t n i ht hi h1 (by omega) i1 i2 hz i3)
      refine ⟨o', x, t', (wh_inl e1).trans f1, f2, f3, .inr ?_⟩
      rcases f4 with ⟨a, b, _⟩ | ⟨a, b⟩
      · rw [a]; exact ⟨b, hz2⟩
      · exact ⟨a, Nat.lt_trans b hz2⟩
theorem fl_outer {H : Int32 × St → Option ((Int32 × St) ⊕ (Int32 × St))} (cond : St → Nat → Nat → Prop) (I : St → Prop)
    (h0 : ∀ t, H (0, t) = some (.inr (0, t)))
    (h1 : ∀ t, ME m t → I t → ∃ o t', H (1, t) = some (.inl (o, t')) ∧ ME m t' ∧ I t' ∧ ((t' = t ∧ o = 0 ∧ ∀ n, 1 ≤ n → n ≤ k → t.1 48 n = 0 → ∀ i, 1 ≤ i → i ≤ k → ¬ cond t i n) ∨ (o = 1 ∧ zc k t' < zc k t))) :
    ∀ d t, zc k t ≤ d → ME m t → I t → ∃ x t', wh H (1, t) = some (x, t') ∧ ME m t' ∧ I t' ∧ ∀ n, 1 ≤ n → n ≤ k → t'.1 48 n = 0 → ∀ i, 1 ≤ i → i ≤ k → ¬ cond t' i n := by
  intro d
  induction d with
  | zero =>
    intro t hd ht hi
    obtain ⟨o, t', e1, e2, e3, e4⟩ := h1 t ht hi
    rcases e4 with ⟨rfl, rfl, e4⟩ | ⟨_, e4⟩
    · exact ⟨0, t', (wh_inl e1).trans (wh_inr (h0 t')), e2, e3, e4⟩
    · omega
  | succ d ih =>
    intro t hd ht hi
    obtain ⟨o, t', e1, e2, e3, e4⟩ := h1 t ht hi
    rcases e4 with ⟨rfl, rfl, e4⟩ | ⟨rfl, e4⟩
    · exact ⟨0, t', (wh_inl e1).trans (wh_inr (h0 t')), e2, e3, e4⟩
    · obtain ⟨x, t2, f1, f2⟩ := ih t' (by omega) e2 e3
      exact ⟨x, t2, (wh_inl e1).trans f1, f2⟩
end PASS
section LOST
variable {k : Nat} {F S C : Nat → Nat} {c m : St}
theorem gd02 {β : Type} (q : Option β) : gd 0 2 q = q := gd_nI (n := 0) (by omega) (by omega)
theorem cl0 : (0 : Int32).toNatClampNeg = 0 := by decide
/-- the first pass -/
def c3 (m : St) (F S : Nat → Nat) (t : St) (j n : Nat) : Prop := t.1 48 j = 3 ∧ eg m F S 0 j n
theorem fl_pass3 (hK : LK k F S C c m) (I : St → Prop) (hI : ∀ t n i, ME m t → I t → 1 ≤ n → n ≤ k → 1 ≤ i → i ≤ k → t.1 48 n = 0 → c3 m F S t i n → I (uI t 48 n 3)) {t : St} (ht : ME m t) (h0 : I t) :
    ∃ x t', wh (fun a : (Int32 × St) => f_Mo_findLost_L54 a.1 a.2) (1, t) = some (x, t') ∧ ME m t' ∧ I t' ∧ ∀ n, 1 ≤ n → n ≤ k → t'.1 48 n = 0 → ∀ i, 1 ≤ i → i ≤ k → ¬ c3 m F S t' i n := by
  have hk := hK.1
  have k34 : ∀ t, ME m t → t.1 34 (0 : Int32).toNatClampNeg = nI k := fun t ht => by rw [cl0, ht.1 34 (by omega)]; exact hK.2.2.1
  refine fl_outer (H := fun a : (Int32 × St) => f_Mo_findLost_L54 a.1 a.2) (c3 m F S) I (fun t => ?_) (fun t ht hi => ?_) (zc k t) t (Nat.le_refl _) ht h0
  · show f_Mo_findLost_L54 0 t = _
    unfold f_Mo_findLost_L54
    rw [if_pos rfl]
  have mid := fl_mid (k := k) (m := m) (Gn := fun a : (Int32 × Int32 × St) => f_Mo_findLost_L62_2 a.1 a.2.1 a.2.2) (w := 3) (c3 m F S) (by decide)
    (fun o t ht => by
      show f_Mo_findLost_L62_2 o (nI (k + 1)) t = _
      unfold f_Mo_findLost_L62_2
      rw [gd02, k34 t ht, if_pos (nI_lt (by omega) (by omega))])
    (fun o n t ht n1 nk => by
      obtain ⟨o', x, t', e1, e2⟩ := fl_inner (k := k) (m := m) (Fn := fun a : (Int32 × Int32 × St) => f_Mo_findLost_L74_3 a.1 (nI n) a.2.1 a.2.2) (n := n) (w := 3) (fun t j => c3 m F S t j n) (by decide)
        (fun o t ht => by
          show f_Mo_findLost_L74_3 o (nI n) (nI (k + 1)) t = _
          unfold f_Mo_findLost_L74_3
          rw [gd02, k34 t ht, if_pos (nI_lt (by omega) (by omega))])
        (fun o j t ht j1 jk hz => by
          show f_Mo_findLost_L74_3 o (nI n) (nI j) t = _
          unfold f_Mo_findLost_L74_3
          rw [gd02, k34 t ht, if_neg (nI_nlt (by omega) (by omega)), gd_nI (by omega) (by omega), nI_clamp (by omega), if_neg hz])
        (fun o j t ht j1 jk hz hc => by
          show f_Mo_findLost_L74_3 o (nI n) (nI j) t = _
          have hb := (mo_block hK ht j1 jk n1 nk (f := 0) (.inl rfl)).1 hc.2
          rw [nI_0] at hb
          unfold f_Mo_findLost_L74_3 f_Mo_reached f_Mo_findLost_J120_3
          rw [gd02, k34 t ht, if_neg (nI_nlt (by omega) (by omega)), gd_nI (by omega) (by omega), nI_clamp (by omega), if_pos hz, gd_nI (by omega) (by omega), nI_clamp (by omega), if_pos hc.1, hb, Option.bind_some, if_neg (by decide), gd_nI (by omega) (by omega), lt_eq, Option.bind_some, lt_eq, nI_1])
        (fun o j t ht j1 jk hz hc => by
          show f_Mo_findLost_L74_3 o (nI n) (nI j) t = _
          unfold f_Mo_findLost_L74_3 f_Mo_findLost_J120_3
          rw [gd02, k34 t ht, if_neg (nI_nlt (by omega) (by omega)), gd_nI (by omega) (by omega), nI_clamp (by omega), if_pos hz, gd_nI (by omega) (by omega), nI_clamp (by omega), nI_1]
          by_cases h3 : t.1 48 j = 3
          · have hb := (mo_block hK ht j1 jk n1 nk (f := 0) (.inl rfl)).2 (fun e => hc ⟨h3, e⟩)
            rw [nI_0] at hb
            rw [if_pos h3, hb, Option.bind_some, if_pos rfl]
          · rw [if_neg h3])
        k 1 (by omega) (by omega) o t ht
      refine ⟨o', t', ?_, ?_⟩
      · show f_Mo_findLost_L62_2 o (nI n) t = _
        unfold f_Mo_findLost_L62_2
        rw [gd02, k34 t ht, if_neg (nI_nlt (by omega) (by omega)), show (1 : Int32) = nI 1 from rfl, e1, Option.bind_some, show (nI 1 : Int32) = 1 from rfl, nI_1]
      · rcases e2 with ⟨a, b, d⟩ | e2
        · exact .inl ⟨a, b, fun h i i1 i2 => d h i i1 i2⟩
        · exact .inr e2)
    I hI k 1 (by omega) (by omega) 0 t ht hi
  obtain ⟨o', x, t', e1, e2, e3, e4⟩ := mid
  refine ⟨o', t', ?_, e2, e3, ?_⟩
  · show f_Mo_findLost_L54 1 t = _
    unfold f_Mo_findLost_L54
    rw [if_neg (by decide)]
    rw [show (nI 1 : Int32) = 1 from rfl] at e1
    rw [e1, Option.bind_some]
  · rcases e4 with ⟨a, b, d⟩ | e4
    · exact .inl ⟨a, b, fun n n1 nk hz i i1 i2 => d n n1 nk hz i i1 i2⟩
    · exact .inr e4
/-- the second pass -/
def c2 (m : St) (F S : Nat → Nat) (t : St) (j n : Nat) : Prop := 2 ≤ t.1 48 j ∧ (eg m F S 1 j n ∨ (t.1 48 j = 2 ∧ eg m F S 0 j n))
theorem fl_pass2 (hK : LK k F S C c m) (I : St → Prop) (hI : ∀ t n i, ME m t → I t → 1 ≤ n → n ≤ k → 1 ≤ i → i ≤ k → t.1 48 n = 0 → c2 m F S t i n → I (uI t 48 n 2)) {t : St} (ht : ME m t) (h0 : I t) :
    ∃ x t', wh (fun a : (Int32 × St) => f_Mo_findLost_L180 a.1 a.2) (1, t) = some (x, t') ∧ ME m t' ∧ I t' ∧ ∀ n, 1 ≤ n → n ≤ k → t'.1 48 n = 0 → ∀ i, 1 ≤ i → i ≤ k → ¬ c2 m F S t' i n := by
  have hk := hK.1
  have k34 : ∀ t, ME m t → t.1 34 (0 : Int32).toNatClampNeg = nI k := fun t ht => by rw [cl0, ht.1 34 (by omega)]; exact hK.2.2.1
  refine fl_outer (H := fun a : (Int32 × St) => f_Mo_findLost_L180 a.1 a.2) (c2 m F S) I (fun t => ?_) (fun t ht hi => ?_) (zc k t) t (Nat.le_refl _) ht h0
  · show f_Mo_findLost_L180 0 t = _
    unfold f_Mo_findLost_L180
    rw [if_pos rfl]
  have mid := fl_mid (k := k) (m := m) (Gn := fun a : (Int32 × Int32 × St) => f_Mo_findLost_L188_2 a.1 a.2.1 a.2.2) (w := 2) (c2 m F S) (by decide)
    (fun o t ht => by
      show f_Mo_findLost_L188_2 o (nI (k + 1)) t = _
      unfold f_Mo_findLost_L188_2
      rw [gd02, k34 t ht, if_pos (nI_lt (by omega) (by omega))])
    (fun o n t ht n1 nk => by
      obtain ⟨o', x, t', e1, e2⟩ := fl_inner (k := k) (m := m) (Fn := fun a : (Int32 × Int32 × St) => f_Mo_findLost_L200_3 a.1 (nI n) a.2.1 a.2.2) (n := n) (w := 2) (fun t j => c2 m F S t j n) (by decide)
        (fun o t ht => by
          show f_Mo_findLost_L200_3 o (nI n) (nI (k + 1)) t = _
          unfold f_Mo_findLost_L200_3
          rw [gd02, k34 t ht, if_pos (nI_lt (by omega) (by omega))])
        (fun o j t ht j1 jk hz => by
          show f_Mo_findLost_L200_3 o (nI n) (nI j) t = _
          unfold f_Mo_findLost_L200_3
          rw [gd02, k34 t ht, if_neg (nI_nlt (by omega) (by omega)), gd_nI (by omega) (by omega), nI_clamp (by omega), if_neg hz])
        (fun o j t ht j1 jk hz hc => by
          show f_Mo_findLost_L200_3 o (nI n) (nI j) t = _
          have hb1 := mo_block hK ht j1 jk n1 nk (f := 1) (.inr rfl)
          have hb0 := mo_block hK ht j1 jk n1 nk (f := 0) (.inl rfl)
          rw [nI_0] at hb0
          rw [show (nI 1 : Int32) = 1 from rfl] at hb1
          unfold f_Mo_findLost_L200_3 f_Mo_findLost_J262_3 f_Mo_reached f_Mo_findLost_J269_3
          rw [gd02, k34 t ht, if_neg (nI_nlt (by omega) (by omega)), gd_nI (by omega) (by omega), nI_clamp (by omega), if_pos hz, gd_nI (by omega) (by omega), nI_clamp (by omega), if_pos hc.1, gd_nI (by omega) (by omega), gd_nI (by omega) (by omega), lt_eq, Option.bind_some, lt_eq, nI_1]
          by_cases h1 : eg m F S 1 j n
          · rw [hb1.1 h1, Option.bind_some, if_neg (by decide)]
          · obtain ⟨h2, h3⟩ := hc.2.resolve_left h1
            rw [hb1.2 h1, Option.bind_some, if_pos rfl, if_pos h2, hb0.1 h3, Option.bind_some, if_neg (by decide)])
        (fun o j t ht j1 jk hz hc => by
          show f_Mo_findLost_L200_3 o (nI n) (nI j) t = _
          have hb1 := mo_block hK ht j1 jk n1 nk (f := 1) (.inr rfl)
          have hb0 := mo_block hK ht j1 jk n1 nk (f := 0) (.inl rfl)
          rw [nI_0] at hb0
          rw [show (nI 1 : Int32) = 1 from rfl] at hb1
          unfold f_Mo_findLost_L200_3 f_Mo_findLost_J269_3
          rw [gd02, k34 t ht, if_neg (nI_nlt (by omega) (by omega)), gd_nI (by omega) (by omega), nI_clamp (by omega), if_pos hz, gd_nI (by omega) (by omega), nI_clamp (by omega), gd_nI (by omega) (by omega), nI_1]
          by_cases h2 : 2 ≤ t.1 48 j
          · rw [if_pos h2, hb1.2 (fun e => hc ⟨h2, .inl e⟩), Option.bind_some, if_pos rfl]
            by_cases h3 : t.1 48 j = 2
            · rw [if_pos h3, hb0.2 (fun e => hc ⟨h2, .inr ⟨h3, e⟩⟩), Option.bind_some, if_pos rfl]
            · rw [if_neg h3]
          · rw [if_neg h2])
        k 1 (by omega) (by omega) o t ht
      refine ⟨o', t', ?_, ?_⟩
      · show f_Mo_findLost_L188_2 o (nI n) t = _
        unfold f_Mo_findLost_L188_2
        rw [gd02, k34 t ht, if_neg (nI_nlt (by omega) (by omega)), show (1 : Int32) = nI 1 from rfl, e1, Option.bind_some, show (nI 1 : Int32) = 1 from rfl, nI_1]
      · rcases e2 with ⟨a, b, d⟩ | e2
        · exact .inl ⟨a, b, fun h i i1 i2 => d h i i1 i2⟩
        · exact .inr e2)
    I hI k 1 (by omega) (by omega) 0 t ht hi
  obtain ⟨o', x, t', e1, e2, e3, e4⟩ := mid
  refine ⟨o', t', ?_, e2, e3, ?_⟩
  · show f_Mo_findLost_L180 1 t = _
    unfold f_Mo_findLost_L180
    rw [if_neg (by decide)]
    rw [show (nI 1 : Int32) = 1 from rfl] at e1
    rw [e1, Option.bind_some]
  · rcases e4 with ⟨a, b, d⟩ | e4
    · exact .inl ⟨a, b, fun n n1 nk hz i i1 i2 => d n n1 nk hz i i1 i2⟩
    · exact .inr e4
end LOST
