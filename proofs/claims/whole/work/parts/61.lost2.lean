/-! ===== lost blocks: the class marks ===== -/
def Uu (k : Nat) (C : Nat → Nat) (n : Nat) : Prop := 1 ≤ n ∧ n ≤ k ∧ C n = 2
/-- where a value leads, in a stage -/
def ld (F S : Nat → Nat) (st : Int32) (n : Nat) (p : Int32) : Prop := vB F n p ∨ (st = 2 ∧ vI F S n p)
def MO (t t' : St) : Prop := ∀ n, t.1 35 n ≠ 0 → t'.1 35 n = t.1 35 n
theorem MO_rf {t : St} : MO t t := fun _ _ => rfl
theorem MO_tr {t t' t2 : St} (h : MO t t') (g : MO t' t2) : MO t t2 := fun n hn => (g n (by rw [h n hn]; exact hn)).trans (h n hn)
theorem MO_nz {t t' : St} (h : MO t t') {n : Nat} (hn : t.1 35 n ≠ 0) : t'.1 35 n ≠ 0 := by rw [h n hn]; exact hn
theorem CE_rf {c : St} : CE c c := ⟨fun _ _ _ _ => rfl, fun _ _ => rfl, rfl⟩
theorem CE_35 {c t : St} (h : CE c t) {j : Nat} {v : Int32} : CE c (uI t 35 j v) := ⟨fun k h1 h2 h3 => by rw [uI_n h2]; exact h.1 k h1 h2 h3, fun j hj => by rw [uI_n (by omega)]; exact h.2.1 j hj, h.2.2⟩
theorem CE_36 {c t : St} (h : CE c t) {j : Nat} {v : Int32} : CE c (uI t 36 j v) := ⟨fun k h1 h2 h3 => by rw [uI_n h3]; exact h.1 k h1 h2 h3, fun j hj => by rw [uI_n (by omega)]; exact h.2.1 j hj, h.2.2⟩
theorem CE_34 {c t : St} (h : CE c t) {v : Int32} : CE c (uI t 34 2 v) := ⟨fun k h1 h2 h3 => by rw [uI_n h1]; exact h.1 k h1 h2 h3, fun j hj => by rw [uI_o (by omega)]; exact h.2.1 j hj, h.2.2⟩
section MARKS
variable {k : Nat} {F S C : Nat → Nat} {c m : St}
theorem he_leads_of {t : St} (hC : CE c t) (p : Int32) : f_He_leadsTo 20 p t = f_He_leadsTo 20 p c := by
  unfold f_He_leadsTo f_He_ownerOf
  rw [hC.1 (20 + 12) (by omega) (by omega) (by omega), hC.1 (20 + 9) (by omega) (by omega) (by omega), hC.1 (20 + 8) (by omega) (by omega) (by omega), hC.1 (20 + 7) (by omega) (by omega) (by omega)]
theorem le_follow (hK : LK k F S C c m) {t : St} (hC : CE c t) (p src : Int32) {st : Int32} :
    (f_Le_follow 20 p src st t = some t ∧ ∀ n, Uu k C n → ld F S st n p → nI n ≠ src → t.1 35 n ≠ 0)
    ∨ (∃ n, Uu k C n ∧ ld F S st n p ∧ nI n ≠ src ∧ t.1 35 n = 0 ∧ f_Le_follow 20 p src st t = f_Le_follow_J48 20 st (nI n) t ∧ ∀ n', Uu k C n' → ld F S st n' p → n' = n) := by
  obtain ⟨w, w1, w2, w3, w4⟩ := hK.2.2.2.2.1 p
  have hk := hK.1
  have uq : ∀ n, Uu k C n → ld F S st n p → w = n := fun n ⟨a, b, d⟩ e => w4 n a b d (e.elim .inl (fun e => .inr e.2))
  unfold f_Le_follow
  rw [he_leads_of hC, w2, Option.bind_some]
  by_cases h0 : w = 0
  · subst h0
    rw [if_pos (show nI 0 = 0 from rfl)]
    exact .inl ⟨rfl, fun n hu hl _ => by have := uq n hu hl; have := hu.1; omega⟩
  rw [if_neg (nI_ne0 (by omega) (by omega))]
  by_cases hs : nI w = src
  · rw [if_pos hs]
    exact .inl ⟨rfl, fun n hu hl hn => by have := uq n hu hl; subst this; exact absurd hs hn⟩
  rw [if_neg hs, gd_nI (by omega) (by omega), nI_clamp (by omega)]
  obtain ⟨c2, hv⟩ := w3 h0
  have hU : Uu k C w := ⟨by omega, w1, c2⟩
  have e7 : t.1 (20 + 7) w = nI (1032 + 8 * F w) := by rw [hC.1 (20 + 7) (by omega) (by omega) (by omega)]; exact (hK.2.2.2.1 w (by omega) w1).1
  by_cases hz : t.1 35 w = 0
  · rw [if_pos (show t.1 (20 + 15) w = 0 from hz)]
    by_cases h2 : st = 2
    · rw [if_pos h2]
      exact .inr ⟨w, hU, hv.elim .inl (fun e => .inr ⟨h2, e⟩), hs, hz, rfl, fun n' a b => (uq n' a b).symm⟩
    · rw [if_neg h2, gd_nI (by omega) (by omega), e7]
      by_cases h7 : nI (1032 + 8 * F w) = p
      · rw [if_pos h7]
        exact .inr ⟨w, hU, .inl h7.symm, hs, hz, rfl, fun n' a b => (uq n' a b).symm⟩
      · rw [if_neg h7]
        refine .inl ⟨rfl, fun n hu hl hn => ?_⟩
        have := uq n hu hl
        subst this
        exact hl.elim (fun e => absurd e.symm h7) (fun e => absurd e.1 h2)
  · rw [if_neg (show ¬ t.1 (20 + 15) w = 0 from hz)]
    exact .inl ⟨rfl, fun n hu hl _ => by have := uq n hu hl; subst this; exact hz⟩
/-- the words of a range -/
theorem le_words (hK : LK k F S C c m) {src st : Int32} {a sz : Nat} (ha : a + sz ≤ 4096) (Inv : St → Prop) (hI : ∀ t, Inv t → CE c t)
    (hf : ∀ t i, Inv t → 4 * i + 4 ≤ sz → wS m (a + 4 * i) → ∃ t', f_Le_follow 20 (wV m (a + 4 * i)) src st t = some t' ∧ Inv t' ∧ MO t t' ∧ ∀ n, Uu k C n → ld F S st n (wV m (a + 4 * i)) → nI n ≠ src → t'.1 35 n ≠ 0)
    {t : St} (h0 : Inv t) : ∃ t', f_Le_followWords 20 (nI a) (nI sz) src st t = some t' ∧ Inv t' ∧ MO t t' ∧ ∀ n, Uu k C n → rgE m (ld F S st n) a sz → nI n ≠ src → t'.1 35 n ≠ 0 := by
  have key : ∀ d i t, i + d = sz / 4 → Inv t → ∃ x t', wh (fun q : (Int32 × St) => f_Le_followWords_L3 20 (nI a) (nI sz) src st q.1 q.2) (nI (4 * i), t) = some (x, t') ∧ Inv t' ∧ MO t t' ∧ ∀ n, Uu k C n → (∃ j, i ≤ j ∧ 4 * j + 4 ≤ sz ∧ wS m (a + 4 * j) ∧ ld F S st n (wV m (a + 4 * j))) → nI n ≠ src → t'.1 35 n ≠ 0 := by
    intro d
    induction d with
    | zero =>
      intro i t hi ht
      refine ⟨nI (4 * i), t, wh_inr ?_, ht, MO_rf, fun n _ ⟨j, j1, j2, _⟩ => by omega⟩
      show f_Le_followWords_L3 20 (nI a) (nI sz) src st (nI (4 * i)) t = _
      unfold f_Le_followWords_L3
      rw [show (4 : Int32) = nI 4 from rfl, nI_add, if_pos (nI_lt (by omega) (by omega))]
    | succ d ih =>
      intro i t hi ht
      have ea : nI (4 * i) + 4 = nI (4 * (i + 1)) := by
        rw [show (4 : Int32) = nI 4 from rfl, nI_add]; congr 1
      obtain ⟨p1, p2⟩ := me_isSet hK (hI t ht) (a := a + 4 * i) (by omega)
      have st1 : f_Le_followWords_L3 20 (nI a) (nI sz) src st (nI (4 * i)) t = (f_Me_isSetWord 20 (nI (a + 4 * i)) t).bind fun q2 => if q2 = 0 then some (.inl (nI (4 * (i + 1)), t)) else (f_Me_wordAt 20 (nI (a + 4 * i)) t).bind fun q5 => (f_Le_follow 20 q5 src st t).bind fun q7 => some (.inl (nI (4 * (i + 1)), q7)) := by
        unfold f_Le_followWords_L3 f_Le_followWords_J41_1
        rw [ea, if_neg (nI_nlt (by omega) (by omega)), nI_add]
      by_cases q : wS m (a + 4 * i)
      · obtain ⟨t1, f1, f2, f3, f4⟩ := hf t i ht (by omega) q
        rw [p1 q, Option.bind_some, if_neg (by decide), me_word hK (hI t ht) (by omega), Option.bind_some, f1, Option.bind_some] at st1
        obtain ⟨x, t2, g1, g2, g3, g4⟩ := ih (i + 1) t1 (by omega) f2
        refine ⟨x, t2, (wh_inl (a' := (nI (4 * (i + 1)), t1)) st1).trans g1, g2, MO_tr f3 g3, fun n hu ⟨j, j1, j2, j3, j4⟩ hn => ?_⟩
        by_cases e : j = i
        · subst e; exact MO_nz g3 (f4 n hu j4 hn)
        · exact g4 n hu ⟨j, by omega, j2, j3, j4⟩ hn
      · rw [p2 q, Option.bind_some, if_pos rfl] at st1
        obtain ⟨x, t2, g1, g2, g3, g4⟩ := ih (i + 1) t (by omega) ht
        refine ⟨x, t2, (wh_inl (a' := (nI (4 * (i + 1)), t)) st1).trans g1, g2, g3, fun n hu ⟨j, j1, j2, j3, j4⟩ hn => g4 n hu ⟨j, ?_, j2, j3, j4⟩ hn⟩
        have : j ≠ i := fun e => q (by rw [← e]; exact j3)
        omega
  obtain ⟨x, t', e1, e2, e3, e4⟩ := key (sz / 4) 0 t (by omega) h0
  refine ⟨t', ?_, e2, e3, fun n hu ⟨j, j1, j2, j3⟩ hn => e4 n hu ⟨j, by omega, j1, j2, j3⟩ hn⟩
  unfold f_Le_followWords
  rw [show (0 : Int32) = nI (4 * 0) from rfl, e1, Option.bind_some]
/-- the queue: all that is marked stands in it, once -/
def QI (k : Nat) (C : Nat → Nat) (A : Nat → Int32 → Prop) (c : St) (q : Nat) (Z : Nat → Nat) (t : St) : Prop :=
  CE c t ∧ t.1 34 2 = nI q ∧ q = sm (fun n => if t.1 35 n = 0 then 0 else 1) k ∧ (∀ i, i < q → t.1 36 i = nI (Z i) ∧ Uu k C (Z i) ∧ t.1 35 (Z i) ≠ 0)
  ∧ (∀ n, Uu k C n → t.1 35 n ≠ 0 → ∃ i, i < q ∧ Z i = n) ∧ (∀ n, Uu k C n → t.1 35 n = 0 ∨ A n (t.1 35 n))
theorem le_J48 {A : Nat → Int32 → Prop} {q : Nat} {Z : Nat → Nat} {t : St} (hk : k ≤ 100) (h : QI k C A c q Z t) {st : Int32} (hst : st = 2 ∨ st = 3) {n : Nat} (hu : Uu k C n) (hz : t.1 35 n = 0) (hA : A n st) :
    ∃ t' Z', f_Le_follow_J48 20 st (nI n) t = some t' ∧ QI k C A c (q + 1) Z' t' ∧ (∀ i, i < q → Z' i = Z i) ∧ MO t t' ∧ t'.1 35 n ≠ 0 := by
  obtain ⟨h1, h2, h3, h4, h5, h6⟩ := h
  obtain ⟨u1, u2, u3⟩ := hu
  have hq : q < k := by
    rw [h3]
    exact sm_lt1 (j := n) (fun j => by show (if t.1 35 j = 0 then 0 else 1) ≤ 1; split <;> omega) (by show (if t.1 35 n = 0 then 0 else 1) = 0; rw [if_pos hz]) k u1 u2
  have s0 : st ≠ 0 := by rcases hst with rfl | rfl <;> decide
  have s1 : st ≠ 1 := by rcases hst with rfl | rfl <;> decide
  obtain ⟨t', ht'⟩ : ∃ t', t' = uI (uI (uI t (20 + 15) n st) (20 + 16) q (nI n)) (20 + 14) 2 (nI (q + 1)) := ⟨_, rfl⟩
  have v35 : ∀ x, t'.1 35 x = if x = n then st else t.1 35 x := by
    intro x
    rw [ht', uI_n (by omega), uI_n (by omega), uI_g2]
    by_cases e : x = n
    · rw [if_pos ⟨rfl, e⟩, if_pos e]
    · rw [if_neg (fun h => e h.2), if_neg e]
  have v36 : ∀ x, t'.1 36 x = if x = q then nI n else t.1 36 x := by
    intro x
    rw [ht', uI_n (by omega), uI_g2, uI_n (by omega)]
    by_cases e : x = q
    · rw [if_pos ⟨rfl, e⟩, if_pos e]
    · rw [if_neg (fun h => e h.2), if_neg e]
  obtain ⟨Z', Zq, Zn⟩ : ∃ Z' : Nat → Nat, Z' q = n ∧ ∀ i, i ≠ q → Z' i = Z i := ⟨fun i => if i = q then n else Z i, if_pos rfl, fun i hi => if_neg hi⟩
  refine ⟨t', Z', ?_, ⟨?_, ?_, ?_, fun i hi => ?_, fun x hx hv => ?_, fun x hx => ?_⟩, fun i hi => Zn i (by omega), fun x hx => ?_, ?_⟩
  · unfold f_Le_follow_J48
    have e34 : (uI t (20 + 15) n st).1 (20 + 14) 2 = nI q := by rw [uI_n (by omega)]; exact h2
    have e342 : (uI (uI t (20 + 15) n st) (20 + 16) q (nI n)).1 (20 + 14) 2 = nI q := by rw [uI_n (by omega)]; exact e34
    rw [gd_nI (by omega) (by omega), nI_clamp (by omega), lt_eq, if_neg s1, e34, if_neg (show ¬ 100 ≤ nI q from nI_ge (b := 100) (by omega) (by decide)), gd_nI (by omega) (by omega), nI_clamp (by omega), lt_eq, lt_eq, e342, nI_1, ht']
  · rw [ht']; exact CE_34 (CE_36 (CE_35 h1))
  · rw [ht', uI_v]
  · have e := sm_upd (f := fun x => if t.1 35 x = 0 then 0 else 1) (j := n) (v := 1) (n := k) u1 u2
    have e2 : sm (fun x => if t'.1 35 x = 0 then 0 else 1) k = sm (fun i => if i = n then 1 else if t.1 35 i = 0 then 0 else 1) k := by
      refine sm_congr (fun j _ _ => ?_)
      show (if t'.1 35 j = 0 then 0 else 1) = _
      rw [v35 j]
      by_cases e : j = n
      · rw [if_pos e, if_pos e, if_neg s0]
      · rw [if_neg e, if_neg e]
    rw [e2]
    have e3 : (if t.1 35 n = 0 then 0 else 1) = 0 := if_pos hz
    have e4 : q = sm (fun x => if t.1 35 x = 0 then 0 else 1) k := h3
    simp only [e3] at e
    omega
  · by_cases e : i = q
    · rw [e, Zq, v36, if_pos rfl]
      exact ⟨rfl, ⟨u1, u2, u3⟩, by rw [v35, if_pos rfl]; exact s0⟩
    · obtain ⟨a1, a2, a3⟩ := h4 i (by omega)
      rw [Zn i e, v36, if_neg e]
      refine ⟨a1, a2, ?_⟩
      rw [v35]
      by_cases e2 : Z i = n
      · rw [if_pos e2]; exact s0
      · rw [if_neg e2]; exact a3
  · rw [v35] at hv
    by_cases e : x = n
    · exact ⟨q, by omega, by rw [Zq, e]⟩
    · rw [if_neg e] at hv
      obtain ⟨i, i1, i2⟩ := h5 x hx hv
      exact ⟨i, by omega, by rw [Zn i (by omega)]; exact i2⟩
  · rw [v35]
    by_cases e : x = n
    · rw [if_pos e, e]; exact .inr hA
    · rw [if_neg e]; exact h6 x hx
  · rw [v35]
    by_cases e : x = n
    · rw [e] at hx; exact absurd hz hx
    · rw [if_neg e]
  · rw [v35, if_pos rfl]; exact s0
/-- what grows from a state of the queue -/
def QG (k : Nat) (C : Nat → Nat) (A : Nat → Int32 → Prop) (c : St) (q : Nat) (Z : Nat → Nat) (t t' : St) : Prop := ∃ q' Z', q ≤ q' ∧ (∀ i, i < q → Z' i = Z i) ∧ QI k C A c q' Z' t' ∧ MO t t'
theorem QG_tr {A : Nat → Int32 → Prop} {q : Nat} {Z : Nat → Nat} {t t1 t2 : St} (h : QG k C A c q Z t t1) (g : ∀ q' Z', QI k C A c q' Z' t1 → QG k C A c q' Z' t1 t2) : QG k C A c q Z t t2 := by
  obtain ⟨q', Z', a1, a2, a3, a4⟩ := h
  obtain ⟨q2, Z2, b1, b2, b3, b4⟩ := g q' Z' a3
  exact ⟨q2, Z2, by omega, fun i hi => (b2 i (by omega)).trans (a2 i hi), b3, MO_tr a4 b4⟩
theorem le_followQ (hK : LK k F S C c m) {A : Nat → Int32 → Prop} {q : Nat} {Z : Nat → Nat} {t : St} (h : QI k C A c q Z t) {p src st : Int32} (hst : st = 2 ∨ st = 3) (hA : ∀ n, Uu k C n → ld F S st n p → nI n ≠ src → t.1 35 n = 0 → A n st) :
    ∃ t', f_Le_follow 20 p src st t = some t' ∧ QG k C A c q Z t t' ∧ ∀ n, Uu k C n → ld F S st n p → nI n ≠ src → t'.1 35 n ≠ 0 := by
  rcases le_follow hK h.1 p src (st := st) with ⟨e1, e2⟩ | ⟨n, n1, n2, n3, n4, n5, n6⟩
  · exact ⟨t, e1, ⟨q, Z, Nat.le_refl _, fun _ _ => rfl, h, MO_rf⟩, e2⟩
  · obtain ⟨t', Z', a1, a2, a3, a4, a5⟩ := le_J48 hK.1 h hst n1 n4 (hA n n1 n2 n3 n4)
    exact ⟨t', n5.trans a1, ⟨q + 1, Z', by omega, a3, a2, a4⟩, fun n' b1 b2 b3 => by rw [n6 n' b1 b2]; exact a5⟩
theorem le_wordsQ (hK : LK k F S C c m) {A : Nat → Int32 → Prop} {q : Nat} {Z : Nat → Nat} {t : St} (h : QI k C A c q Z t) {src st : Int32} (hst : st = 2 ∨ st = 3) {a sz : Nat} (ha : a + sz ≤ 4096) (hA : ∀ n, Uu k C n → rgE m (ld F S st n) a sz → nI n ≠ src → t.1 35 n = 0 → A n st) :
    ∃ t', f_Le_followWords 20 (nI a) (nI sz) src st t = some t' ∧ QG k C A c q Z t t' ∧ ∀ n, Uu k C n → rgE m (ld F S st n) a sz → nI n ≠ src → t'.1 35 n ≠ 0 := by
  obtain ⟨t', e1, e2, _, e3⟩ := le_words hK (src := src) (st := st) ha (fun t1 => QG k C A c q Z t t1) (fun t1 ⟨_, _, _, _, g, _⟩ => g.1)
    (fun t1 i hg hi hw => by
      obtain ⟨q1, Z1, g1, g2, g3, g4⟩ := hg
      obtain ⟨t2, f1, ⟨q2, Z2, f2, f3, f4, f5⟩, f6⟩ := le_followQ hK g3 (p := wV m (a + 4 * i)) (src := src) hst (fun n b1 b2 b3 b4 => hA n b1 ⟨i, hi, hw, b2⟩ b3 (Classical.byContradiction fun e => MO_nz g4 e b4))
      exact ⟨t2, f1, ⟨q2, Z2, by omega, fun i hi => (f3 i (by omega)).trans (g2 i hi), f4, MO_tr g4 f5⟩, f5, f6⟩)
    ⟨q, Z, Nat.le_refl _, fun _ _ => rfl, h, MO_rf⟩
  exact ⟨t', e1, e2, e3⟩
end MARKS
