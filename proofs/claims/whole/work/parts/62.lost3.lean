/-! ===== lost blocks: the class's stages ===== -/
theorem sm_zero {f : Nat → Nat} : ∀ n, (∀ j, 1 ≤ j → j ≤ n → f j = 0) → sm f n = 0
  | 0, _ => rfl
  | n + 1, h => by
    show sm f n + f (n + 1) = 0
    rw [sm_zero n (fun j a b => h j a (by omega)), h (n + 1) (by omega) (by omega)]
theorem rgE_mono {m : St} {P Q : Int32 → Prop} {a sz : Nat} (h : rgE m P a sz) (hq : ∀ p, P p → Q p) : rgE m Q a sz := by
  obtain ⟨i, a, b, d⟩ := h; exact ⟨i, a, b, hq _ d⟩
theorem rtE_mono {m : St} {P Q : Int32 → Prop} (h : rtE m P) (hq : ∀ p, P p → Q p) : rtE m Q := by
  rcases h with h | h | ⟨r, a, b, d⟩
  · exact .inl (rgE_mono h hq)
  · exact .inr (.inl (rgE_mono h hq))
  · exact .inr (.inr ⟨r, a, b, hq _ d⟩)
theorem rgE_or {m : St} {P Q : Int32 → Prop} {a sz : Nat} (h : rgE m (fun p => P p ∨ Q p) a sz) : rgE m P a sz ∨ rgE m Q a sz := by
  obtain ⟨i, a, b, d⟩ := h
  exact d.elim (fun d => .inl ⟨i, a, b, d⟩) (fun d => .inr ⟨i, a, b, d⟩)
theorem rtE_or {m : St} {P Q : Int32 → Prop} (h : rtE m (fun p => P p ∨ Q p)) : rtE m P ∨ rtE m Q := by
  rcases h with h | h | ⟨r, a, b, d⟩
  · exact (rgE_or h).elim (fun h => .inl (.inl h)) (fun h => .inr (.inl h))
  · exact (rgE_or h).elim (fun h => .inl (.inr (.inl h))) (fun h => .inr (.inr (.inl h)))
  · exact d.elim (fun d => .inl (.inr (.inr ⟨r, a, b, d⟩))) (fun d => .inr (.inr (.inr ⟨r, a, b, d⟩)))
def r3 (U : Nat → Prop) (E : Nat → Nat → Nat → Prop) (n : Nat) : Prop := ∀ X : Nat → Prop, (∀ n, U n → E 0 0 n → X n) → (∀ j n, X j → U n → E 0 j n → X n) → X n
def r2 (U : Nat → Prop) (E : Nat → Nat → Nat → Prop) (n : Nat) : Prop := ∀ X : Nat → Prop, (∀ n, U n → ¬ r3 U E n → E 1 0 n → X n) → (∀ j n, r3 U E j → U n → ¬ r3 U E n → E 1 j n → X n) → (∀ j n, X j → U n → ¬ r3 U E n → (E 1 j n ∨ E 0 j n) → X n) → X n
def r1 (U : Nat → Prop) (E : Nat → Nat → Nat → Prop) (n : Nat) : Prop := ∃ j, j ≠ n ∧ U j ∧ ¬ r3 U E j ∧ ¬ r2 U E j ∧ E 0 j n
def VR (U : Nat → Prop) (E : Nat → Nat → Nat → Prop) (n : Nat) (x : Int32) : Prop := (x = 3 ∧ r3 U E n) ∨ (x = 2 ∧ r2 U E n ∧ ¬ r3 U E n) ∨ (x = 1 ∧ r1 U E n ∧ ¬ r2 U E n ∧ ¬ r3 U E n) ∨ (x = 0 ∧ ¬ r1 U E n ∧ ¬ r2 U E n ∧ ¬ r3 U E n)
theorem VR_eq {U : Nat → Prop} {E : Nat → Nat → Nat → Prop} {n : Nat} {x y : Int32} (h : VR U E n x) (g : VR U E n y) : x = y := by
  rcases h with ⟨rfl, h⟩ | ⟨rfl, h, h'⟩ | ⟨rfl, h, h', h''⟩ | ⟨rfl, h, h', h''⟩ <;> rcases g with ⟨rfl, g⟩ | ⟨rfl, g, g'⟩ | ⟨rfl, g, g', g''⟩ | ⟨rfl, g, g', g''⟩ <;> first | rfl | contradiction
section GRAPH
variable {U : Nat → Prop} {E : Nat → Nat → Nat → Prop}
theorem r3_root {n : Nat} (h : U n) (e : E 0 0 n) : r3 U E n := fun _ a _ => a n h e
theorem r3_step {j n : Nat} (g : r3 U E j) (h : U n) (e : E 0 j n) : r3 U E n := fun X a b => b j n (g X a b) h e
theorem r3_U {n : Nat} (g : r3 U E n) : U n := g U (fun _ h _ => h) (fun _ _ _ h _ => h)
theorem r2_root {n : Nat} (h : U n) (h3 : ¬ r3 U E n) (e : E 1 0 n) : r2 U E n := fun _ a _ _ => a n h h3 e
theorem r2_three {j n : Nat} (g : r3 U E j) (h : U n) (h3 : ¬ r3 U E n) (e : E 1 j n) : r2 U E n := fun _ _ b _ => b j n g h h3 e
theorem r2_step {j n : Nat} (g : r2 U E j) (h : U n) (h3 : ¬ r3 U E n) (e : E 1 j n ∨ E 0 j n) : r2 U E n := fun X a b d => d j n (g X a b d) h h3 e
theorem r2_U {n : Nat} (g : r2 U E n) : U n ∧ ¬ r3 U E n := g (fun n => U n ∧ ¬ r3 U E n) (fun _ h h3 _ => ⟨h, h3⟩) (fun _ _ _ h h3 _ => ⟨h, h3⟩) (fun _ _ _ h h3 _ => ⟨h, h3⟩)
end GRAPH
section SPREAD
variable {k : Nat} {F S C : Nat → Nat} {c m : St}
theorem le_regs (hK : LK k F S C c m) {A : Nat → Int32 → Prop} {t : St} {q : Nat} {Z : Nat → Nat} (h : QI k C A c q Z t) {st : Int32} (hst : st = 2 ∨ st = 3) (hA : ∀ n, Uu k C n → rtE m (ld F S st n) → t.1 35 n = 0 → A n st) :
    ∃ x t', wh (fun a : (Int32 × St) => f_Le_spread_L3 20 st a.1 a.2) (0, t) = some (x, t') ∧ QG k C A c q Z t t' ∧ ∀ n, Uu k C n → (∃ r, r < 8 ∧ m.1 14 r = 0 ∧ ld F S st n (m.1 13 r)) → t'.1 35 n ≠ 0 := by
  have key : ∀ d r t1, r + d = 8 → QG k C A c q Z t t1 → ∃ x t', wh (fun a : (Int32 × St) => f_Le_spread_L3 20 st a.1 a.2) (nI r, t1) = some (x, t') ∧ QG k C A c q Z t t' ∧ MO t1 t' ∧ ∀ n, Uu k C n → (∃ r', r ≤ r' ∧ r' < 8 ∧ m.1 14 r' = 0 ∧ ld F S st n (m.1 13 r')) → t'.1 35 n ≠ 0 := by
    intro d
    induction d with
    | zero =>
      intro r t1 hr hg
      refine ⟨nI r, t1, wh_inr ?_, hg, MO_rf, fun n _ ⟨r', _, _, _⟩ => by omega⟩
      obtain rfl : r = 8 := by omega
      show f_Le_spread_L3 20 st (nI 8) t1 = _
      unfold f_Le_spread_L3
      rw [if_pos (by decide)]
    | succ d ih =>
      intro r t1 hr hg
      have hg' := hg
      obtain ⟨q1, Z1, g1, g2, g3, g4⟩ := hg
      obtain ⟨x0, x1⟩ := hK.2.2.2.2.2.2 r (by omega)
      have st1 : f_Le_spread_L3 20 st (nI r) t1 = if m.1 14 r = 0 then (f_Le_follow 20 (m.1 13 r) 0 st t1).bind fun q5 => some (.inl (nI (r + 1), q5)) else some (.inl (nI (r + 1), t1)) := by
        unfold f_Le_spread_L3 f_Le_spread_J37_1
        rw [if_neg (show ¬ 8 ≤ nI r from nI_ge (b := 8) (by omega) (by decide)), gd_nI (by omega) (by omega), gd_nI (by omega) (by omega), nI_clamp (by omega), g3.1.1 (20 + 26 + r) (by omega) (by omega) (by omega), x0, x1, nI_1]
      by_cases hs : m.1 14 r = 0
      · obtain ⟨t2, f1, f2, f3⟩ := le_followQ hK g3 (p := m.1 13 r) (src := 0) hst (fun n b1 b2 b3 b4 => hA n b1 (.inr (.inr ⟨r, by omega, hs, b2⟩)) (Classical.byContradiction fun e => MO_nz g4 e b4))
        rw [if_pos hs, f1, Option.bind_some] at st1
        obtain ⟨q2, Z2, a1, a2, a3, a4⟩ := f2
        obtain ⟨x, t3, e1, e2, e3, e4⟩ := ih (r + 1) t2 (by omega) ⟨q2, Z2, by omega, fun i hi => (a2 i (by omega)).trans (g2 i hi), a3, MO_tr g4 a4⟩
        refine ⟨x, t3, (wh_inl (a' := (nI (r + 1), t2)) st1).trans e1, e2, MO_tr a4 e3, fun n hu ⟨r', r1, r2, r3, r4⟩ => ?_⟩
        by_cases e : r' = r
        · subst e
          exact MO_nz e3 (f3 n hu r4 (by have := hu.1; have := hu.2.1; have := hK.1; exact nI_ne0 (by omega) (by omega)))
        · exact e4 n hu ⟨r', by omega, r2, r3, r4⟩
      · rw [if_neg hs] at st1
        obtain ⟨x, t3, e1, e2, e3, e4⟩ := ih (r + 1) t1 (by omega) hg'
        refine ⟨x, t3, (wh_inl (a' := (nI (r + 1), t1)) st1).trans e1, e2, e3, fun n hu ⟨r', r1, r2, r3, r4⟩ => e4 n hu ⟨r', ?_, r2, r3, r4⟩⟩
        have : r' ≠ r := fun e => hs (by rw [← e]; exact r3)
        omega
  obtain ⟨x, t', e1, e2, _, e4⟩ := key 8 0 t (by omega) ⟨q, Z, Nat.le_refl _, fun _ _ => rfl, h, MO_rf⟩
  exact ⟨x, t', e1, e2, fun n hu ⟨r, a⟩ => e4 n hu ⟨r, by omega, a⟩⟩
theorem QI_q {A : Nat → Int32 → Prop} {q : Nat} {Z : Nat → Nat} {t : St} (h : QI k C A c q Z t) : q ≤ k := by
  rw [h.2.2.1]
  exact sm_le1 (fun j => by show (if t.1 35 j = 0 then 0 else 1) ≤ 1; split <;> omega) k
theorem le_queue (hK : LK k F S C c m) {A : Nat → Int32 → Prop} {t : St} {st : Int32} (hst : st = 2 ∨ st = 3)
    (hB : ∀ j x, Uu k C j → A j x → ∀ n, Uu k C n → rgE m (ld F S st n) (1032 + 8 * F j) (S j) → t.1 35 n = 0 → A n st) :
    ∀ d i t1 q1 Z1, i + d = 101 → QI k C A c q1 Z1 t1 → i ≤ q1 → MO t t1 → (∀ i', i' < i → ∀ n, Uu k C n → rgE m (ld F S st n) (1032 + 8 * F (Z1 i')) (S (Z1 i')) → t1.1 35 n ≠ 0) →
    ∃ x t2 q2 Z2, wh (fun a : (Int32 × St) => f_Le_spread_L74 20 st a.1 a.2) (nI i, t1) = some (x, t2) ∧ QI k C A c q2 Z2 t2 ∧ MO t1 t2 ∧ ∀ i', i' < q2 → ∀ n, Uu k C n → rgE m (ld F S st n) (1032 + 8 * F (Z2 i')) (S (Z2 i')) → t2.1 35 n ≠ 0 := by
  have hk := hK.1
  intro d
  induction d with
  | zero => intro i t1 q1 Z1 hi hq hle; have := QI_q hq; omega
  | succ d ih =>
    intro i t1 q1 Z1 hi hq hle hM hd
    have hqk := QI_q hq
    have hq' := hq
    obtain ⟨a1, a2, a3, a4, a5, a6⟩ := hq
    by_cases e : q1 ≤ i
    · obtain rfl : i = q1 := by omega
      refine ⟨nI i, t1, i, Z1, wh_inr ?_, hq', MO_rf, hd⟩
      show f_Le_spread_L74 20 st (nI i) t1 = _
      unfold f_Le_spread_L74
      rw [show t1.1 (20 + 14) 2 = nI i from a2, if_pos (nI_le (Nat.le_refl _) (by omega))]
    · obtain ⟨b1, b2, b3⟩ := a4 i (by omega)
      obtain ⟨e7, e8, _, _, _, _, s1, s2, _⟩ := hK.2.2.2.1 (Z1 i) b2.1 b2.2.1
      have hj := b2.2.1
      rw [← a1.1 (20 + 7) (by omega) (by omega) (by omega)] at e7
      rw [← a1.1 (20 + 8) (by omega) (by omega) (by omega)] at e8
      obtain ⟨t2, f1, ⟨q2, Z2, f2, f3, f4, f5⟩, f6⟩ := le_wordsQ hK hq' (src := nI (Z1 i)) (st := st) hst (a := 1032 + 8 * F (Z1 i)) (sz := S (Z1 i)) (by omega) (fun n c1 c2 c3 c4 => hB (Z1 i) (t1.1 35 (Z1 i)) b2 ((a6 (Z1 i) b2).resolve_left b3) n c1 c2 (Classical.byContradiction fun e => MO_nz hM e c4))
      have st1 : f_Le_spread_L74 20 st (nI i) t1 = some (.inl (nI (i + 1), t2)) := by
        unfold f_Le_spread_L74
        rw [show t1.1 (20 + 14) 2 = nI q1 from a2, if_neg (nI_ge (by omega) (by omega)), if_neg (show ¬ 100 ≤ nI i from nI_ge (b := 100) (by omega) (by decide)), gd_nI (by omega) (by omega), nI_clamp (by omega), show t1.1 (20 + 16) i = nI (Z1 i) from b1, lt_eq, gd_nI (by omega) (by omega), gd_nI (by omega) (by omega), nI_clamp (by omega), e7, e8, f1, Option.bind_some, nI_1]
      obtain ⟨x, t3, q3, Z3, g1, g2, g3, g4⟩ := ih (i + 1) t2 q2 Z2 (by omega) f4 (by omega) (MO_tr hM f5) (fun i' hi' n hu hr => by
        rw [f3 i' (by omega)] at hr
        by_cases e2 : i' = i
        · subst e2
          by_cases e3 : n = Z1 i'
          · subst e3; exact MO_nz f5 b3
          · have := hu.2.1
            exact f6 n hu hr (fun e4 => e3 ((nI_eq (by omega) (by omega)).mp e4))
        · exact MO_nz f5 (hd i' (by omega) n hu hr))
      exact ⟨x, t3, q3, Z3, (wh_inl (a' := (nI (i + 1), t2)) st1).trans g1, g2, MO_tr f5 g3, g4⟩
theorem le_spread (hK : LK k F S C c m) {A : Nat → Int32 → Prop} {t : St} {q : Nat} {Z : Nat → Nat} (h : QI k C A c q Z t) {st : Int32} (hst : st = 2 ∨ st = 3)
    (hA : ∀ n, Uu k C n → rtE m (ld F S st n) → t.1 35 n = 0 → A n st)
    (hB : ∀ j x, Uu k C j → A j x → ∀ n, Uu k C n → rgE m (ld F S st n) (1032 + 8 * F j) (S j) → t.1 35 n = 0 → A n st) :
    ∃ t' q' Z', f_Le_spread 20 st t = some t' ∧ QI k C A c q' Z' t' ∧ MO t t' ∧ (∀ n, Uu k C n → rtE m (ld F S st n) → t'.1 35 n ≠ 0) ∧ (∀ j n, Uu k C j → t'.1 35 j ≠ 0 → Uu k C n → rgE m (ld F S st n) (1032 + 8 * F j) (S j) → t'.1 35 n ≠ 0) := by
  have hk := hK.1
  have n0 : ∀ n, Uu k C n → nI n ≠ 0 := fun n hu => by have := hu.1; have := hu.2.1; exact nI_ne0 (by omega) (by omega)
  obtain ⟨x, t1, e1, ⟨q1, Z1, _, _, e2, e3⟩, e4⟩ := le_regs hK h hst hA
  obtain ⟨t2, f1, ⟨q2, Z2, _, _, f2, f3⟩, f4⟩ := le_wordsQ hK e2 (src := 0) (st := st) hst (a := 256) (sz := 256) (by omega) (fun n b1 b2 b3 b4 => hA n b1 (.inl b2) (Classical.byContradiction fun e => MO_nz e3 e b4))
  obtain ⟨t3, g1, ⟨q3, Z3, _, _, g2, g3⟩, g4⟩ := le_wordsQ hK f2 (src := 0) (st := st) hst (a := 3072) (sz := 1024) (by omega) (fun n b1 b2 b3 b4 => hA n b1 (.inr (.inl b2)) (Classical.byContradiction fun e => MO_nz (MO_tr e3 f3) e b4))
  obtain ⟨x2, t4, q4, Z4, i1, i2, i3, i4⟩ := le_queue hK hst hB 101 0 t3 q3 Z3 (by omega) g2 (by omega) (MO_tr (MO_tr e3 f3) g3) (fun i' hi' => absurd hi' (by omega))
  refine ⟨t4, q4, Z4, ?_, i2, MO_tr (MO_tr (MO_tr e3 f3) g3) i3, fun n hu hr => ?_, fun j n hj hz hu hr => ?_⟩
  · unfold f_Le_spread
    rw [e1, Option.bind_some]
    rw [show (nI 256 : Int32) = 256 from rfl] at f1
    rw [show (nI 3072 : Int32) = 3072 from rfl, show (nI 1024 : Int32) = 1024 from rfl] at g1
    rw [nI_0] at i1
    dsimp only
    rw [f1, Option.bind_some, g1, Option.bind_some, i1, Option.bind_some]
  · rcases hr with hr | hr | hr
    · exact MO_nz (MO_tr g3 i3) (f4 n hu hr (n0 n hu))
    · exact MO_nz i3 (g4 n hu hr (n0 n hu))
    · exact MO_nz (MO_tr (MO_tr f3 g3) i3) (e4 n hu hr)
  · obtain ⟨i, hi, rfl⟩ := i2.2.2.2.2.1 j hj hz
    exact i4 i hi n hu hr
end SPREAD
