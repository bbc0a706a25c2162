/-! ===== lost blocks: words, and where they lead ===== -/
def vB (F : Nat → Nat) (n : Nat) (p : Int32) : Prop := p = nI (1032 + 8 * F n)
def vI (F S : Nat → Nat) (n : Nat) (p : Int32) : Prop := nI (1032 + 8 * F n) < p ∧ p < nI (1032 + 8 * F n + S n)
def vL (F S : Nat → Nat) (f n : Nat) (p : Int32) : Prop := (f = 0 ∧ vB F n p) ∨ (f = 1 ∧ vI F S n p)
theorem v_nat {F S : Nat → Nat} {n : Nat} {p : Int32} (hb : F n + (2 + (S n + 7) / 8) ≤ 256) (h : vB F n p ∨ vI F S n p) : ∃ y, p = nI y ∧ 1032 + 8 * F n ≤ y ∧ (y = 1032 + 8 * F n ∨ y < 1032 + 8 * F n + S n) := by
  rcases h with h | ⟨h1, h2⟩
  · exact ⟨_, h, Nat.le_refl _, .inl rfl⟩
  · obtain ⟨y, hy, rfl⟩ := nI_rng (n := 1032 + 8 * F n + S n) (by omega) (Int32.le_of_lt (Int32.lt_of_le_of_lt (nI_pos' (by omega)) h1)) h2
    exact ⟨y, rfl, Nat.le_of_lt ((nI_ltI (by omega) (by omega)).mp h1), .inr hy⟩
theorem nI_dneg {y a : Nat} (h : y < a) (ha : a < 2 ^ 31) : nI y - nI a < 0 := by
  rw [Int32.lt_iff_toInt_lt, Int32.toInt_sub, nI_toInt (by omega), nI_toInt ha, Int.bmod_eq_of_le (by omega) (by omega)]
  show (y : Int) - a < (0 : Int32).toInt
  rw [show (0 : Int32).toInt = 0 from by decide]
  omega
theorem he_leads {z B : Nat} {c m : St} {k qs qe : Nat} {F S C W Q : Nat → Nat} (hH : HX z B c m k qs qe F S C W Q) (p : Int32) :
    ∃ w, w ≤ k ∧ f_He_leadsTo B p c = some (nI w) ∧ (w ≠ 0 → C w = 2 ∧ (vB F w p ∨ vI F S w p)) ∧ ∀ n, 1 ≤ n → n ≤ k → C n = 2 → (vB F n p ∨ vI F S n p) → w = n := by
  have hk := hH.2.1
  have zero : f_He_ownerOf B p c = some 0 → (∀ n, 1 ≤ n → n ≤ k → C n = 2 → (vB F n p ∨ vI F S n p) → False) → ∃ w, w ≤ k ∧ f_He_leadsTo B p c = some (nI w) ∧ (w ≠ 0 → C w = 2 ∧ (vB F w p ∨ vI F S w p)) ∧ ∀ n, 1 ≤ n → n ≤ k → C n = 2 → (vB F n p ∨ vI F S n p) → w = n := by
    intro h0 h1
    refine ⟨0, by omega, ?_, fun h => absurd rfl h, fun n a b d e => (h1 n a b d e).elim⟩
    unfold f_He_leadsTo
    rw [h0, Option.bind_some, if_pos rfl]; rfl
  by_cases hl : p < 1024
  · refine zero (by unfold f_He_ownerOf; rw [if_pos hl]) (fun n a b d e => ?_)
    have hb := (hH.2.2.1 n a b).2.2.2.2.1
    obtain ⟨y, rfl, y1, y2⟩ := v_nat hb e
    exact absurd hl (show ¬ nI y < 1024 from nI_nlt (b := 1024) (by omega) (by omega))
  · by_cases hg : p < 3072
    · obtain ⟨y, hy, rfl⟩ : ∃ y, y < 3072 ∧ p = nI y := nI_rng (n := 3072) (by decide) (Int32.le_trans (by decide) (Int32.not_lt.mp hl)) hg
      have hy1 : 1024 ≤ y := (nI_leI (a := 1024) (by decide) (by omega)).mp (Int32.not_lt.mp hl)
      obtain ⟨w1, w2, w3⟩ := hH.2.2.2.1 ((y - 1024) / 8) (by omega)
      have hO : f_He_ownerOf B (nI y) c = some (nI (W ((y - 1024) / 8))) := by
        unfold f_He_ownerOf
        rw [if_neg hl, if_pos hg, show (1024 : Int32) = nI 1024 from rfl, nI_sub hy1, div8_n (by omega), gd_nI (by omega) (by omega), nI_clamp (by omega), w1]
      have uq : ∀ n, 1 ≤ n → n ≤ k → C n = 2 → (vB F n (nI y) ∨ vI F S n (nI y)) → W ((y - 1024) / 8) = n := by
        intro n a b d e
        have hb := (hH.2.2.1 n a b).2.2.2.2.1
        obtain ⟨y', e1, y1, y2⟩ := v_nat hb e
        have := (nI_eq (by omega) (by omega)).mp e1
        subst this
        exact hH.2.2.2.2.1 n a b (by omega) ((y - 1024) / 8) (by omega) (by omega)
      generalize W ((y - 1024) / 8) = w at w2 hO uq w3
      by_cases h0 : w = 0
      · subst h0
        exact zero hO (fun n a b d e => by have := uq n a b d e; omega)
      · obtain ⟨x1, x2, x3, x4, x5, x6⟩ := hH.2.2.1 w (by omega) w2
        have n0 : ¬ nI w = 0 := nI_ne0 (by omega) (by omega)
        have key : f_He_leadsTo B (nI y) c = if C w = 2 then (if nI y - nI (1032 + 8 * F w) = 0 then some (nI w) else if nI y - nI (1032 + 8 * F w) ≤ 0 then some 0 else if nI (S w) ≤ nI y - nI (1032 + 8 * F w) then some 0 else some (nI w)) else some 0 := by
          unfold f_He_leadsTo
          rw [hO, Option.bind_some, if_neg n0, gd_nI (by omega) (by omega), nI_clamp (by omega), x3]
          by_cases hc : C w = 2
          · rw [if_pos hc, hc, if_pos (show nI 2 = 2 from rfl), gd_nI (by omega) (by omega), x1, lt_eq, gd_nI (by omega) (by omega), x2]
          · rw [if_neg hc, if_neg (show ¬ nI (C w) = 2 from ne_l (k := 2) (by omega) (by omega) hc)]
        have no : f_He_leadsTo B (nI y) c = some 0 → (C w = 2 → ¬ (vB F w (nI y) ∨ vI F S w (nI y))) → ∃ w, w ≤ k ∧ f_He_leadsTo B (nI y) c = some (nI w) ∧ (w ≠ 0 → C w = 2 ∧ (vB F w (nI y) ∨ vI F S w (nI y))) ∧ ∀ n, 1 ≤ n → n ≤ k → C n = 2 → (vB F n (nI y) ∨ vI F S n (nI y)) → w = n := by
          intro a1 a2
          refine ⟨0, by omega, a1, fun h => absurd rfl h, fun n a b d e => ?_⟩
          have := uq n a b d e
          subst this
          exact absurd e (a2 d)
        by_cases hc : C w = 2
        · rw [if_pos hc] at key
          have a0 : ∀ q : Nat, q ≤ 3080 → (nI y = nI q ↔ y = q) := fun q hq => nI_eq (by omega) (by omega)
          rcases Nat.lt_trichotomy y (1032 + 8 * F w) with hlt | heq | hgt
          · have d := nI_dneg hlt (by omega)
            rw [if_neg (fun e => by rw [e] at d; exact absurd d (by decide)), if_pos (Int32.le_of_lt d)] at key
            refine no key (fun _ e => ?_)
            rcases e with e | ⟨e, _⟩
            · have := (a0 _ (by omega)).mp e; omega
            · exact absurd e (nI_nlt (by omega) (by omega))
          · rw [heq, Int32.sub_self, if_pos rfl] at key
            rw [heq]
            exact ⟨w, w2, key, fun _ => ⟨hc, .inl rfl⟩, fun n a b d e => by rw [← heq] at e; exact uq n a b d e⟩
          · rw [nI_sub (by omega), if_neg (nI_ne0 (by omega) (by omega)), if_neg (nI_nle (by omega) (by omega))] at key
            by_cases hS : S w ≤ y - (1032 + 8 * F w)
            · rw [if_pos (nI_le hS (by omega))] at key
              refine no key (fun _ e => ?_)
              rcases e with e | ⟨_, e⟩
              · have := (a0 _ (by omega)).mp e; omega
              · exact absurd e (nI_nlt (by omega) (by omega))
            · rw [if_neg (nI_ge (by omega) (by omega))] at key
              exact ⟨w, w2, key, fun _ => ⟨hc, .inr ⟨nI_lt hgt (by omega), nI_lt (by omega) (by omega)⟩⟩, uq⟩
        · rw [if_neg hc] at key
          exact no key (fun h => absurd h hc)
    · refine zero (by unfold f_He_ownerOf; rw [if_neg hl, if_neg hg]) (fun n a b d e => ?_)
      have hb := (hH.2.2.1 n a b).2.2.2.2.1
      obtain ⟨y, rfl, y1, y2⟩ := v_nat hb e
      exact absurd (show nI y < 3072 from nI_lt (b := 3072) (by omega) (by decide)) hg
/-- what both sides have in common -/
def LK (k : Nat) (F S C : Nat → Nat) (c m : St) : Prop :=
  k ≤ 100 ∧ c.1 (20 + 6) 5 = nI k ∧ m.1 34 0 = nI k
  ∧ (∀ j, 1 ≤ j → j ≤ k → c.1 (20 + 7) j = nI (1032 + 8 * F j) ∧ c.1 (20 + 8) j = nI (S j) ∧ c.1 (20 + 9) j = nI (C j) ∧ m.1 28 j = nI (1032 + 8 * F j) ∧ m.1 29 j = nI (S j) ∧ m.1 30 j = nI (C j) ∧ S j ≤ 512 ∧ F j + (2 + (S j + 7) / 8) ≤ 256 ∧ C j ≤ 2)
  ∧ (∀ p, ∃ w, w ≤ k ∧ f_He_leadsTo 20 p c = some (nI w) ∧ (w ≠ 0 → C w = 2 ∧ (vB F w p ∨ vI F S w p)) ∧ ∀ n, 1 ≤ n → n ≤ k → C n = 2 → (vB F n p ∨ vI F S n p) → w = n)
  ∧ (∀ a, a < 4096 → c.1 (20 + 2) a = m.1 16 a ∧ c.1 (20 + 3) a = m.1 17 a ∧ c.1 (20 + 5) a = m.1 19 a)
  ∧ (∀ r, r < 8 → c.1 (20 + 26 + r) 0 = m.1 13 r ∧ c.1 (20 + 26 + r) 1 = m.1 14 r)
def CE (c t : St) : Prop := (∀ k, k ≠ 34 → k ≠ 35 → k ≠ 36 → t.1 k = c.1 k) ∧ (∀ j, j ≠ 2 → t.1 34 j = c.1 34 j) ∧ t.2 = c.2
def ME (m t : St) : Prop := (∀ k, k ≠ 48 → t.1 k = m.1 k) ∧ t.2 = m.2
def wS (m : St) (a : Nat) : Prop := ∀ j, j < 4 → m.1 19 (a + j) ≠ 0 ∧ m.1 17 (a + j) = 0
def wV (m : St) (a : Nat) : Int32 := ((m.1 16 a ||| (m.1 16 (a + 1) <<< (8 &&& 31))) ||| (m.1 16 (a + 2) <<< (16 &&& 31))) ||| (m.1 16 (a + 3) <<< (24 &&& 31))
def rgE (m : St) (P : Int32 → Prop) (a sz : Nat) : Prop := ∃ i, 4 * i + 4 ≤ sz ∧ wS m (a + 4 * i) ∧ P (wV m (a + 4 * i))
def rtE (m : St) (P : Int32 → Prop) : Prop := rgE m P 256 256 ∨ rgE m P 3072 1024 ∨ ∃ r, r < 8 ∧ m.1 14 r = 0 ∧ P (m.1 13 r)
/-- an edge: from the roots (0) or from a block -/
def eg (m : St) (F S : Nat → Nat) (f j n : Nat) : Prop := (j = 0 ∧ rtE m (vL F S f n)) ∨ (j ≠ 0 ∧ rgE m (vL F S f n) (1032 + 8 * F j) (S j))
section LEAKS
variable {k : Nat} {F S C : Nat → Nat} {c m t : St}
theorem mo_leads (hK : LK k F S C c m) (hM : ME m t) {n f : Nat} (h1 : 1 ≤ n) (hn : n ≤ k) (hf : f = 0 ∨ f = 1) (p : Int32) : (vL F S f n p → f_Mo_leads p (nI n) (nI f) t = some 1) ∧ (¬ vL F S f n p → f_Mo_leads p (nI n) (nI f) t = some 0) := by
  obtain ⟨k1, k2, k3, k4, _⟩ := hK
  obtain ⟨_, _, _, e28, e29, _, s1, s2, _⟩ := k4 n h1 hn
  rw [← hM.1 28 (by omega)] at e28
  rw [← hM.1 29 (by omega)] at e29
  unfold f_Mo_leads vL vB vI
  rcases hf with rfl | rfl
  · rw [if_pos (show nI 0 = 0 from rfl), gd_nI (by omega) (by omega), nI_clamp (by omega), e28]
    by_cases q : p = nI (1032 + 8 * F n)
    · rw [if_pos q]; exact ⟨fun _ => rfl, fun h => absurd (.inl ⟨rfl, q⟩) h⟩
    · rw [if_neg q]; exact ⟨fun h => h.elim (fun h => absurd h.2 q) (fun h => absurd h.1 (by decide)), fun _ => rfl⟩
  · rw [if_neg (show ¬ nI 1 = 0 by decide), gd_nI (by omega) (by omega), gd_nI (by omega) (by omega), gd_nI (by omega) (by omega), nI_clamp (by omega), e28, e29, nI_add]
    by_cases q : p ≤ nI (1032 + 8 * F n)
    · rw [if_pos q]; exact ⟨fun h => h.elim (fun h => absurd h.1 (by decide)) (fun h => absurd h.2.1 (Int32.not_lt.mpr q)), fun _ => rfl⟩
    · rw [if_neg q]
      by_cases q2 : nI (1032 + 8 * F n + S n) ≤ p
      · rw [if_pos q2]; exact ⟨fun h => h.elim (fun h => absurd h.1 (by decide)) (fun h => absurd h.2.2 (Int32.not_lt.mpr q2)), fun _ => rfl⟩
      · rw [if_neg q2]; exact ⟨fun _ => rfl, fun h => absurd (.inr ⟨rfl, Int32.not_le.mp q, Int32.not_le.mp q2⟩) h⟩
theorem mo_isPtr (hM : ME m t) {a : Nat} (ha : a + 4 ≤ 4096) : (wS m a → f_Mo_isPointer (nI a) t = some 1) ∧ (¬ wS m a → f_Mo_isPointer (nI a) t = some 0) := by
  have st0 : ∀ i, i < 4 → f_Mo_isPointer_L4 (nI a) 0 (nI i) t = some (.inl (0, nI (i + 1))) := by
    intro i hi
    unfold f_Mo_isPointer_L4 f_Mo_isPointer_J39_1 f_Mo_isPointer_J40_1
    rw [if_neg (show ¬ 4 ≤ nI i from nI_ge (b := 4) hi (by decide)), if_pos rfl, nI_1]
  have st1 : ∀ i, i < 4 → f_Mo_isPointer_L4 (nI a) 1 (nI i) t = if m.1 19 (a + i) ≠ 0 ∧ m.1 17 (a + i) = 0 then some (.inl (1, nI (i + 1))) else some (.inl (0, nI (i + 1))) := by
    intro i hi
    unfold f_Mo_isPointer_L4 f_Mo_isPointer_J39_1 f_Mo_isPointer_J40_1
    rw [if_neg (show ¬ 4 ≤ nI i from nI_ge (b := 4) hi (by decide)), if_neg (show ¬ (1 : Int32) = 0 by decide), nI_add, gd_nI (by omega) (by omega), gd_nI (by omega) (by omega), nI_clamp (by omega), hM.1 19 (by omega), hM.1 17 (by omega), nI_1]
    by_cases q : m.1 19 (a + i) = 0
    · rw [if_pos q, if_neg (fun h => h.1 q)]
    · rw [if_neg q]
      by_cases q2 : m.1 17 (a + i) = 0
      · rw [if_pos q2, if_pos ⟨q, q2⟩]
      · rw [if_neg q2, if_neg (fun h => q2 h.2)]
  have en : ∀ f, f_Mo_isPointer_L4 (nI a) f (nI 4) t = some (.inr (f, nI 4)) := by
    intro f
    unfold f_Mo_isPointer_L4
    rw [if_pos (by decide)]
  have w0 : ∀ d i, i + d = 4 → wh (fun q : (Int32 × Int32) => f_Mo_isPointer_L4 (nI a) q.1 q.2 t) (0, nI i) = some (0, nI 4) := by
    intro d
    induction d with
    | zero => intro i hi; obtain rfl : i = 4 := by omega
              exact wh_inr (en 0)
    | succ d ih => intro i hi; rw [wh_inl (a' := (0, nI (i + 1))) (st0 i (by omega))]; exact ih (i + 1) (by omega)
  have w1 : ∀ d i, i + d = 4 → ((∀ j, i ≤ j → j < 4 → m.1 19 (a + j) ≠ 0 ∧ m.1 17 (a + j) = 0) → wh (fun q : (Int32 × Int32) => f_Mo_isPointer_L4 (nI a) q.1 q.2 t) (1, nI i) = some (1, nI 4)) ∧ (¬ (∀ j, i ≤ j → j < 4 → m.1 19 (a + j) ≠ 0 ∧ m.1 17 (a + j) = 0) → wh (fun q : (Int32 × Int32) => f_Mo_isPointer_L4 (nI a) q.1 q.2 t) (1, nI i) = some (0, nI 4)) := by
    intro d
    induction d with
    | zero =>
      intro i hi
      obtain rfl : i = 4 := by omega
      exact ⟨fun _ => wh_inr (en 1), fun h => absurd (fun j a b => absurd b (by omega)) h⟩
    | succ d ih =>
      intro i hi
      have hs := st1 i (by omega)
      obtain ⟨i1, i2⟩ := ih (i + 1) (by omega)
      by_cases q : m.1 19 (a + i) ≠ 0 ∧ m.1 17 (a + i) = 0
      · rw [if_pos q] at hs
        rw [wh_inl (a' := (1, nI (i + 1))) hs]
        refine ⟨fun h => i1 (fun j a b => h j (by omega) b), fun h => i2 (fun h2 => h (fun j a b => ?_))⟩
        by_cases e : j = i
        · rw [e]; exact q
        · exact h2 j (by omega) b
      · rw [if_neg q] at hs
        rw [wh_inl (a' := (0, nI (i + 1))) hs]
        exact ⟨fun h => absurd (h i (by omega) (by omega)) q, fun _ => w0 d (i + 1) (by omega)⟩
  unfold f_Mo_isPointer
  obtain ⟨a1, a2⟩ := w1 4 0 (by omega)
  rw [nI_0] at a1 a2
  exact ⟨fun h => by rw [a1 (fun j _ b => h j b)]; rfl, fun h => by rw [a2 (fun h2 => h (fun j b => h2 j (by omega) b))]; rfl⟩
theorem mo_word (hM : ME m t) {a : Nat} (ha : a + 4 ≤ 4096) : f_Mo_word (nI a) t = some (wV m a) := by
  unfold f_Mo_word wV
  rw [gd_nI (by omega) (by omega), nI_1, gd_nI (by omega) (by omega), show (2 : Int32) = nI 2 from rfl, nI_add, gd_nI (by omega) (by omega), show (3 : Int32) = nI 3 from rfl, nI_add, gd_nI (by omega) (by omega), nI_clamp (by omega), nI_clamp (by omega), nI_clamp (by omega), nI_clamp (by omega), hM.1 16 (by omega)]
theorem me_word (hK : LK k F S C c m) (hC : CE c t) {a : Nat} (ha : a + 4 ≤ 4096) : f_Me_wordAt 20 (nI a) t = some (wV m a) := by
  have q := hK.2.2.2.2.2.1
  unfold f_Me_wordAt wV
  rw [gd_nI (by omega) (by omega), nI_1, gd_nI (by omega) (by omega), show (2 : Int32) = nI 2 from rfl, nI_add, gd_nI (by omega) (by omega), show (3 : Int32) = nI 3 from rfl, nI_add, gd_nI (by omega) (by omega), nI_clamp (by omega), nI_clamp (by omega), nI_clamp (by omega), nI_clamp (by omega), hC.1 (20 + 2) (by omega) (by omega) (by omega), (q a (by omega)).1, (q (a + 1) (by omega)).1, (q (a + 2) (by omega)).1, (q (a + 3) (by omega)).1]
theorem me_isSet (hK : LK k F S C c m) (hC : CE c t) {a : Nat} (ha : a + 4 ≤ 4096) : (wS m a → f_Me_isSetWord 20 (nI a) t = some 1) ∧ (¬ wS m a → f_Me_isSetWord 20 (nI a) t = some 0) := by
  have q := hK.2.2.2.2.2.1
  have hh : f_Me_holds (nI a) 4 = 1 := by
    unfold f_Me_holds
    rw [if_neg (by decide), if_neg (nI_pos (by omega)), if_neg (by decide), if_neg (by decide), if_neg (show ¬ (4096 - 4 : Int32) < nI a from nI_nlt (a := 4092) (by omega) (by decide))]
  have hd : ∀ i, i < 4 → (db 20 t a i ↔ ¬ (m.1 19 (a + i) ≠ 0 ∧ m.1 17 (a + i) = 0)) := by
    intro i hi
    unfold db
    rw [hC.1 (20 + 5) (by omega) (by omega) (by omega), hC.1 (20 + 3) (by omega) (by omega) (by omega), (q (a + i) (by omega)).2.1, (q (a + i) (by omega)).2.2]
    constructor
    · rintro (h | h) ⟨h1, h2⟩
      · exact h1 h
      · exact h h2
    · intro h
      by_cases e : m.1 19 (a + i) = 0
      · exact .inl e
      · exact .inr (fun e2 => h ⟨e, e2⟩)
  have hw := me_db (B := 20) (c := t) (x := nI a) (a := a) (k := 4) (by omega) (.inr rfl) ha
  unfold f_Me_isSetWord
  rw [hh, if_neg (by decide)]
  rcases hw with ⟨h1, h2⟩ | ⟨i, h1, h2, _, h3⟩
  · rw [show (nI 4 : Int32) = 4 from rfl] at h2
    rw [h2, Option.bind_some, if_pos rfl]
    refine ⟨fun _ => rfl, fun h => absurd (fun j hj => ?_) h⟩
    exact Classical.byContradiction fun h4 => h1 j hj ((hd j hj).mpr h4)
  · rw [show (nI 4 : Int32) = 4 from rfl] at h3
    rw [h3, Option.bind_some, if_neg (nI_nm1 (by omega))]
    exact ⟨fun h => absurd (h i h1) ((hd i h1).mp h2), fun _ => rfl⟩
theorem bN_1 : bN 1 = 1 := by decide +kernel
theorem bN_0 : bN 0 = 0 := by decide +kernel
theorem al4 : ∀ j : Fin 1024, (nI (4 * j.val) + 3) &&& (-4) = nI (4 * j.val) := by decide +kernel
theorem mo_range (hK : LK k F S C c m) (hM : ME m t) {n f a sz : Nat} (h1 : 1 ≤ n) (hn : n ≤ k) (hf : f = 0 ∨ f = 1) (ha : a + sz ≤ 4096) (h4 : a % 4 = 0) (ha2 : a < 4096) {w : Int32} (hw : w = nI (a + sz)) :
    (rgE m (vL F S f n) a sz → f_Mo_leadsFromRange (nI a) w (nI n) (nI f) t = some 1) ∧ (¬ rgE m (vL F S f n) a sz → f_Mo_leadsFromRange (nI a) w (nI n) (nI f) t = some 0) := by
  subst hw
  have e4 : (nI a + 3) &&& (-4) = nI a := by
    have := al4 ⟨a / 4, by omega⟩
    rw [show 4 * (a / 4) = a by omega] at this; exact this
  have st : ∀ i, 4 * i + 4 ≤ sz → (wS m (a + 4 * i) ∧ vL F S f n (wV m (a + 4 * i)) → f_Mo_leadsFromRange_L11 (nI (a + sz)) (nI n) (nI f) 0 (nI (a + 4 * i)) t = some (.inl (1, nI (a + 4 * (i + 1))))) ∧ (¬ (wS m (a + 4 * i) ∧ vL F S f n (wV m (a + 4 * i))) → f_Mo_leadsFromRange_L11 (nI (a + sz)) (nI n) (nI f) 0 (nI (a + 4 * i)) t = some (.inl (0, nI (a + 4 * (i + 1))))) := by
    intro i hi
    have ea : nI (a + 4 * i) + 4 = nI (a + 4 * (i + 1)) := by
      rw [show (4 : Int32) = nI 4 from rfl, nI_add]; congr 1
    obtain ⟨p1, p2⟩ := mo_isPtr hM (a := a + 4 * i) (by omega)
    obtain ⟨l1, l2⟩ := mo_leads hK hM h1 hn hf (wV m (a + 4 * i))
    unfold f_Mo_leadsFromRange_L11 f_Mo_leadsFromRange_J53_1 f_Mo_leadsFromRange_J54_1
    rw [if_pos rfl, ea, if_neg (nI_nlt (by omega) (by omega))]
    by_cases q : wS m (a + 4 * i)
    · rw [p1 q, Option.bind_some, if_neg (by decide), mo_word hM (by omega), Option.bind_some]
      by_cases q2 : vL F S f n (wV m (a + 4 * i))
      · rw [l1 q2, Option.bind_some, if_neg (by decide)]; exact ⟨fun _ => rfl, fun h => absurd ⟨q, q2⟩ h⟩
      · rw [l2 q2, Option.bind_some, if_pos rfl]; exact ⟨fun h => absurd h.2 q2, fun _ => rfl⟩
    · rw [p2 q, Option.bind_some, if_pos rfl]; exact ⟨fun h => absurd h.1 q, fun _ => rfl⟩
  have e1 : ∀ x, wh (fun q : (Int32 × Int32) => f_Mo_leadsFromRange_L11 (nI (a + sz)) (nI n) (nI f) q.1 q.2 t) (1, x) = some (1, x) := by
    intro x
    refine wh_inr ?_
    show f_Mo_leadsFromRange_L11 (nI (a + sz)) (nI n) (nI f) 1 x t = _
    unfold f_Mo_leadsFromRange_L11
    rw [if_neg (by decide)]
  have w0 : ∀ d i, i + d = sz / 4 → ∃ x, ((∃ j, i ≤ j ∧ 4 * j + 4 ≤ sz ∧ wS m (a + 4 * j) ∧ vL F S f n (wV m (a + 4 * j))) → wh (fun q : (Int32 × Int32) => f_Mo_leadsFromRange_L11 (nI (a + sz)) (nI n) (nI f) q.1 q.2 t) (0, nI (a + 4 * i)) = some (1, x)) ∧ (¬ (∃ j, i ≤ j ∧ 4 * j + 4 ≤ sz ∧ wS m (a + 4 * j) ∧ vL F S f n (wV m (a + 4 * j))) → wh (fun q : (Int32 × Int32) => f_Mo_leadsFromRange_L11 (nI (a + sz)) (nI n) (nI f) q.1 q.2 t) (0, nI (a + 4 * i)) = some (0, x)) := by
    intro d
    induction d with
    | zero =>
      intro i hi
      refine ⟨nI (a + 4 * i), fun ⟨j, j1, j2, _⟩ => by omega, fun _ => wh_inr ?_⟩
      show f_Mo_leadsFromRange_L11 (nI (a + sz)) (nI n) (nI f) 0 (nI (a + 4 * i)) t = _
      unfold f_Mo_leadsFromRange_L11
      rw [if_pos rfl, show (4 : Int32) = nI 4 from rfl, nI_add, if_pos (nI_lt (by omega) (by omega))]
    | succ d ih =>
      intro i hi
      have hs := st i (by omega)
      by_cases q : wS m (a + 4 * i) ∧ vL F S f n (wV m (a + 4 * i))
      · have hs := hs.1 q
        rw [wh_inl (a' := (1, nI (a + 4 * (i + 1)))) hs]
        exact ⟨_, fun _ => e1 _, fun h => absurd ⟨i, Nat.le_refl _, by omega, q.1, q.2⟩ h⟩
      · have hs := hs.2 q
        rw [wh_inl (a' := (0, nI (a + 4 * (i + 1)))) hs]
        obtain ⟨x, i1, i2⟩ := ih (i + 1) (by omega)
        refine ⟨x, fun ⟨j, j1, j2, j3, j4⟩ => i1 ⟨j, ?_, j2, j3, j4⟩, fun h => i2 (fun ⟨j, j1, j2, j3, j4⟩ => h ⟨j, by omega, j2, j3, j4⟩)⟩
        have : j ≠ i := fun e => q (by rw [← e]; exact ⟨j3, j4⟩)
        omega
  obtain ⟨x, x1, x2⟩ := w0 (sz / 4) 0 (by omega)
  unfold f_Mo_leadsFromRange
  rw [lt_eq, e4]
  rw [show a + 4 * 0 = a by omega] at x1 x2
  exact ⟨fun ⟨j, j1, j2⟩ => by rw [x1 ⟨j, by omega, j1, j2⟩]; exact congrArg some bN_1, fun h => by rw [x2 (fun ⟨j, _, j1, j2⟩ => h ⟨j, j1, j2⟩)]; exact congrArg some bN_0⟩
theorem mo_roots (hK : LK k F S C c m) (hM : ME m t) {n f : Nat} (h1 : 1 ≤ n) (hn : n ≤ k) (hf : f = 0 ∨ f = 1) : (rtE m (vL F S f n) → f_Mo_leadsFromRoots (nI n) (nI f) t = some 1) ∧ (¬ rtE m (vL F S f n) → f_Mo_leadsFromRoots (nI n) (nI f) t = some 0) := by
  have st0 : ∀ i, i < 8 → (m.1 14 i = 0 ∧ vL F S f n (m.1 13 i) → f_Mo_leadsFromRoots_L39 (nI n) (nI f) 0 (nI i) t = some (.inl (1, nI (i + 1)))) ∧ (¬ (m.1 14 i = 0 ∧ vL F S f n (m.1 13 i)) → f_Mo_leadsFromRoots_L39 (nI n) (nI f) 0 (nI i) t = some (.inl (0, nI (i + 1)))) := by
    intro i hi
    obtain ⟨l1, l2⟩ := mo_leads hK hM h1 hn hf (m.1 13 i)
    unfold f_Mo_leadsFromRoots_L39 f_Mo_leadsFromRoots_J76_1 f_Mo_leadsFromRoots_J80_1 f_Mo_leadsFromRoots_J81_1
    rw [if_neg (show ¬ 8 ≤ nI i from nI_ge (b := 8) hi (by decide)), if_pos rfl, gd_nI (by omega) (by omega), gd_nI (by omega) (by omega), nI_clamp (by omega), hM.1 14 (by omega), hM.1 13 (by omega), nI_1]
    by_cases q : m.1 14 i = 0
    · rw [if_pos q]
      by_cases q2 : vL F S f n (m.1 13 i)
      · rw [l1 q2, Option.bind_some, if_neg (by decide)]; exact ⟨fun _ => rfl, fun h => absurd ⟨q, q2⟩ h⟩
      · rw [l2 q2, Option.bind_some, if_pos rfl]; exact ⟨fun h => absurd h.2 q2, fun _ => rfl⟩
    · rw [if_neg q]; exact ⟨fun h => absurd h.1 q, fun _ => rfl⟩
  have st1 : ∀ i, i < 8 → f_Mo_leadsFromRoots_L39 (nI n) (nI f) 1 (nI i) t = some (.inl (1, nI (i + 1))) := by
    intro i hi
    unfold f_Mo_leadsFromRoots_L39 f_Mo_leadsFromRoots_J76_1 f_Mo_leadsFromRoots_J81_1
    rw [if_neg (show ¬ 8 ≤ nI i from nI_ge (b := 8) hi (by decide)), if_neg (by decide), nI_1]
  have en : ∀ f', f_Mo_leadsFromRoots_L39 (nI n) (nI f) f' (nI 8) t = some (.inr (f', nI 8)) := by
    intro f'
    unfold f_Mo_leadsFromRoots_L39
    rw [if_pos (by decide)]
  have w1 : ∀ d i, i + d = 8 → wh (fun q : (Int32 × Int32) => f_Mo_leadsFromRoots_L39 (nI n) (nI f) q.1 q.2 t) (1, nI i) = some (1, nI 8) := by
    intro d
    induction d with
    | zero => intro i hi; obtain rfl : i = 8 := by omega
              exact wh_inr (en 1)
    | succ d ih => intro i hi; rw [wh_inl (a' := (1, nI (i + 1))) (st1 i (by omega))]; exact ih (i + 1) (by omega)
  have w0 : ∀ d i, i + d = 8 → ((∃ j, i ≤ j ∧ j < 8 ∧ m.1 14 j = 0 ∧ vL F S f n (m.1 13 j)) → wh (fun q : (Int32 × Int32) => f_Mo_leadsFromRoots_L39 (nI n) (nI f) q.1 q.2 t) (0, nI i) = some (1, nI 8)) ∧ (¬ (∃ j, i ≤ j ∧ j < 8 ∧ m.1 14 j = 0 ∧ vL F S f n (m.1 13 j)) → wh (fun q : (Int32 × Int32) => f_Mo_leadsFromRoots_L39 (nI n) (nI f) q.1 q.2 t) (0, nI i) = some (0, nI 8)) := by
    intro d
    induction d with
    | zero =>
      intro i hi
      obtain rfl : i = 8 := by omega
      exact ⟨fun ⟨j, j1, j2, _⟩ => by omega, fun _ => wh_inr (en 0)⟩
    | succ d ih =>
      intro i hi
      have hs := st0 i (by omega)
      by_cases q : m.1 14 i = 0 ∧ vL F S f n (m.1 13 i)
      · have hs := hs.1 q
        rw [wh_inl (a' := (1, nI (i + 1))) hs]
        exact ⟨fun _ => w1 d (i + 1) (by omega), fun h => absurd ⟨i, Nat.le_refl _, by omega, q.1, q.2⟩ h⟩
      · have hs := hs.2 q
        rw [wh_inl (a' := (0, nI (i + 1))) hs]
        obtain ⟨i1, i2⟩ := ih (i + 1) (by omega)
        refine ⟨fun ⟨j, j1, j2, j3, j4⟩ => i1 ⟨j, ?_, j2, j3, j4⟩, fun h => i2 (fun ⟨j, j1, j2, j3, j4⟩ => h ⟨j, by omega, j2, j3, j4⟩)⟩
        have : j ≠ i := fun e => q (by rw [← e]; exact ⟨j3, j4⟩)
        omega
  have J1 : f_Mo_leadsFromRoots_J30 (nI n) (nI f) t = some 1 := by
    unfold f_Mo_leadsFromRoots_J30 f_Mo_leadsFromRoots_J35
    rw [← nI_0, w1 8 0 (by omega)]; rfl
  obtain ⟨r1, r2⟩ := mo_range hK hM h1 hn hf (a := 256) (sz := 256) (by omega) (by omega) (by omega) (w := 512) rfl
  obtain ⟨r3, r4⟩ := mo_range hK hM h1 hn hf (a := 3072) (sz := 1024) (by omega) (by omega) (by omega) (w := 4096) rfl
  rw [show (nI 256 : Int32) = 256 from rfl] at r1 r2
  rw [show (nI 3072 : Int32) = 3072 from rfl] at r3 r4
  obtain ⟨x1, x2⟩ := w0 8 0 (by omega)
  rw [nI_0] at x1 x2
  unfold f_Mo_leadsFromRoots rtE
  by_cases q : rgE m (vL F S f n) 256 256
  · rw [r1 q, Option.bind_some, if_neg (by decide), J1]; exact ⟨fun _ => rfl, fun h => absurd (.inl q) h⟩
  rw [r2 q, Option.bind_some, if_pos rfl]
  by_cases q2 : rgE m (vL F S f n) 3072 1024
  · rw [r3 q2, Option.bind_some, if_neg (by decide), J1]; exact ⟨fun _ => rfl, fun h => absurd (.inr (.inl q2)) h⟩
  rw [r4 q2, Option.bind_some, if_pos rfl]
  unfold f_Mo_leadsFromRoots_J35
  refine ⟨fun h => ?_, fun h => ?_⟩
  · rcases h with h | h | ⟨r, h⟩
    · exact absurd h q
    · exact absurd h q2
    · rw [x1 ⟨r, by omega, h⟩]; rfl
  · rw [x2 (fun ⟨r, _, hr⟩ => h (.inr (.inr ⟨r, hr⟩)))]; rfl
theorem mo_block (hK : LK k F S C c m) (hM : ME m t) {j n f : Nat} (j1 : 1 ≤ j) (hj : j ≤ k) (h1 : 1 ≤ n) (hn : n ≤ k) (hf : f = 0 ∨ f = 1) : (eg m F S f j n → f_Mo_leadsFromBlock (nI j) (nI n) (nI f) t = some 1) ∧ (¬ eg m F S f j n → f_Mo_leadsFromBlock (nI j) (nI n) (nI f) t = some 0) := by
  have k1 := hK.1
  obtain ⟨_, _, _, e28, e29, _, s1, s2, _⟩ := hK.2.2.2.1 j j1 hj
  rw [← hM.1 28 (by omega)] at e28
  rw [← hM.1 29 (by omega)] at e29
  obtain ⟨r1, r2⟩ := mo_range hK hM h1 hn hf (a := 1032 + 8 * F j) (sz := S j) (by omega) (by omega) (by omega) (w := nI (1032 + 8 * F j) + nI (S j)) (nI_add _ _)
  unfold f_Mo_leadsFromBlock
  rw [gd_nI (by omega) (by omega), gd_nI (by omega) (by omega), gd_nI (by omega) (by omega), nI_clamp (by omega), e28, e29]
  unfold eg
  refine ⟨fun h => ?_, fun h => ?_⟩
  · rcases h with ⟨h, _⟩ | ⟨_, h⟩
    · omega
    · rw [r1 h]; rfl
  · rw [r2 (fun h2 => h (.inr ⟨by omega, h2⟩))]; rfl
end LEAKS
