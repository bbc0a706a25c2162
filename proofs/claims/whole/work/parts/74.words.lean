/-! ===== words ===== -/
theorem wn_lo {sg : Nat → Nat} {q : Nat} : ∀ n, sg q * 256 ^ n ≤ wn sg q (n + 1)
  | 0 => by show sg q * 1 ≤ 0 * 256 + sg (q + 0); rw [Nat.add_zero]; omega
  | n + 1 => by
    have h := wn_lo (sg := sg) (q := q) n
    show sg q * 256 ^ (n + 1) ≤ wn sg q (n + 1) * 256 + sg (q + (n + 1))
    rw [Nat.pow_succ, ← Nat.mul_assoc]
    omega
theorem wn_hi {sg : Nat → Nat} {q : Nat} (h256 : ∀ i, sg i < 256) : ∀ n, wn sg q (n + 1) < (sg q + 1) * 256 ^ n
  | 0 => by show 0 * 256 + sg (q + 0) < (sg q + 1) * 1; rw [Nat.add_zero]; omega
  | n + 1 => by
    have h := wn_hi (q := q) h256 n
    have h2 := h256 (q + (n + 1))
    show wn sg q (n + 1) * 256 + sg (q + (n + 1)) < (sg q + 1) * 256 ^ (n + 1)
    rw [Nat.pow_succ, ← Nat.mul_assoc]
    omega
theorem WD_lt {sg : Nat → Nat} {q n : Nat} (h256 : ∀ i, sg i < 256) (h : WD sg q n) : wn sg q n < 2 ^ 63 := by
  obtain ⟨h1, h2, h3, _⟩ := h
  obtain ⟨k, rfl⟩ : ∃ k, n = k + 1 := ⟨n - 1, by omega⟩
  have a := wn_hi (q := q) h256 k
  have b : (256 : Nat) ^ k ≤ 256 ^ 7 := Nat.pow_le_pow_right (by decide) (by omega)
  have d : sg q + 1 ≤ 123 := by have := h3.2; omega
  calc wn sg q (k + 1) < (sg q + 1) * 256 ^ k := a
    _ ≤ 123 * 256 ^ 7 := Nat.mul_le_mul d b
    _ < 2 ^ 63 := by decide
theorem WD_pos {sg : Nat → Nat} {q n : Nat} (h : WD sg q n) : 0 < wn sg q n := by
  obtain ⟨h1, h2, h3, _⟩ := h
  obtain ⟨k, rfl⟩ : ∃ k, n = k + 1 := ⟨n - 1, by omega⟩
  have a := wn_lo (sg := sg) (q := q) k
  have b : 0 < 256 ^ k := Nat.pow_pos (by decide)
  have d : 97 ≤ sg q := h3.1
  exact Nat.lt_of_lt_of_le (Nat.mul_pos (by omega) b) a
theorem lN_inj {a b : Nat} (ha : a < 2 ^ 63) (hb : b < 2 ^ 63) : lN a = lN b ↔ a = b := by
  refine ⟨fun h => ?_, fun h => by rw [h]⟩
  have := congrArg Int64.toInt h
  rw [lN_int ha, lN_int hb] at this
  omega
theorem wn_inj0 {sg : Nat → Nat} (h256 : ∀ i, sg i < 256) : ∀ n k a b, (0 < n → 0 < sg a) → (0 < k → 0 < sg b) → wn sg a n = wn sg b k → n = k ∧ ∀ i, i < n → sg (a + i) = sg (b + i)
  | 0, 0, _, _, _, _, _ => ⟨rfl, fun i hi => by omega⟩
  | 0, k + 1, a, b, _, hb, h => by
    have x := wn_lo (sg := sg) (q := b) k
    have y : 0 < 256 ^ k := Nat.pow_pos (by decide)
    have z : 0 < sg b * 256 ^ k := Nat.mul_pos (hb (by omega)) y
    have w : wn sg a 0 = 0 := rfl
    omega
  | n + 1, 0, a, b, ha, _, h => by
    have x := wn_lo (sg := sg) (q := a) n
    have y : 0 < 256 ^ n := Nat.pow_pos (by decide)
    have z : 0 < sg a * 256 ^ n := Nat.mul_pos (ha (by omega)) y
    have w : wn sg b 0 = 0 := rfl
    omega
  | n + 1, k + 1, a, b, ha, hb, h => by
    have h' : wn sg a n * 256 + sg (a + n) = wn sg b k * 256 + sg (b + k) := h
    have x := h256 (a + n)
    have y := h256 (b + k)
    obtain ⟨i1, i2⟩ := wn_inj0 h256 n k a b (fun _ => ha (by omega)) (fun _ => hb (by omega)) (by omega)
    subst i1
    refine ⟨rfl, fun i hi => ?_⟩
    by_cases e : i = n
    · rw [e]; omega
    · exact i2 i (by omega)
theorem wn_cg {sg : Nat → Nat} {a b : Nat} : ∀ n, (∀ i, i < n → sg (a + i) = sg (b + i)) → wn sg a n = wn sg b n
  | 0, _ => rfl
  | n + 1, h => by
    show wn sg a n * 256 + sg (a + n) = wn sg b n * 256 + sg (b + n)
    rw [wn_cg n (fun i hi => h i (by omega)), h n (by omega)]
theorem wn_inj {sg : Nat → Nat} (h256 : ∀ i, sg i < 256) {a b n k : Nat} (ha : WD sg a n) (hb : WD sg b k) : lN (wn sg a n) = lN (wn sg b k) ↔ (n = k ∧ ∀ i, i < n → sg (a + i) = sg (b + i)) := by
  rw [lN_inj (WD_lt h256 ha) (WD_lt h256 hb)]
  constructor
  · exact wn_inj0 h256 n k a b (fun _ => by have := ha.2.2.1.1; omega) (fun _ => by have := hb.2.2.1.1; omega)
  · rintro ⟨rfl, h⟩; exact wn_cg n h
/-- a register's name -/
def rgn (sg : Nat → Nat) (q n : Nat) : Prop := n = 2 ∧ sg q = 114 ∧ 48 ≤ sg (q + 1) ∧ sg (q + 1) ≤ 55
theorem reg_of {sg : Nat → Nat} (h256 : ∀ i, sg i < 256) {q n : Nat} (h : WD sg q n) : (rgn sg q n → f_As_registerOf (lN (wn sg q n)) = nI (sg (q + 1) - 48)) ∧ (¬ rgn sg q n → f_As_registerOf (lN (wn sg q n)) = -1) := by
  have hlt := WD_lt h256 h
  have hr : (rgn sg q n → wn sg q n = 29232 + (sg (q + 1) - 48)) ∧ (¬ rgn sg q n → wn sg q n < 29232 ∨ 29240 ≤ wn sg q n) := by
    obtain ⟨h1, h2, h3, _⟩ := h
    have h3' : 97 ≤ sg q ∧ sg q ≤ 122 := h3
    have x := h256 (q + 1)
    unfold rgn
    by_cases n1 : n = 1
    · subst n1
      have e : wn sg q 1 = 0 * 256 + sg (q + 0) := rfl
      rw [Nat.add_zero] at e
      exact ⟨fun h => absurd h.1 (by decide), fun _ => .inl (by omega)⟩
    by_cases n2 : n = 2
    · subst n2
      have e : wn sg q 2 = (0 * 256 + sg (q + 0)) * 256 + sg (q + 1) := rfl
      rw [Nat.add_zero] at e
      exact ⟨fun h => by omega, fun h => by omega⟩
    · obtain ⟨k, rfl⟩ : ∃ k, n = k + 3 := ⟨n - 3, by omega⟩
      have a : sg q * 256 ^ (k + 2) ≤ wn sg q (k + 3) := wn_lo (sg := sg) (q := q) (k + 2)
      have b : 256 ^ 2 ≤ 256 ^ (k + 2) := Nat.pow_le_pow_right (by decide) (by omega)
      have d : 97 * 256 ^ 2 ≤ sg q * 256 ^ (k + 2) := Nat.mul_le_mul h3'.1 b
      exact ⟨fun h => absurd h.1 (by omega), fun _ => .inr (by omega)⟩
  generalize wn sg q n = W at hlt hr
  have e : ((lN W - 29184) - 48).toInt = (W : Int) - 29232 := by
    rw [Int64.toInt_sub, Int64.toInt_sub, lN_int hlt, show (29184 : Int64).toInt = 29184 by decide, show (48 : Int64).toInt = 48 by decide, Int.bmod_eq_of_le (n := (W : Int) - 29184) (by omega) (by omega), Int.bmod_eq_of_le (by omega) (by omega)]
    omega
  have l0 : ((lN W - 29184) - 48 < 0) ↔ W < 29232 := by
    rw [Int64.lt_iff_toInt_lt, e, show (0 : Int64).toInt = 0 by decide]; omega
  have l8 : (8 ≤ (lN W - 29184) - 48) ↔ 29240 ≤ W := by
    rw [Int64.le_iff_toInt_le, e, show (8 : Int64).toInt = 8 by decide]; omega
  unfold f_As_registerOf
  refine ⟨fun h => ?_, fun h => ?_⟩
  · have hW := hr.1 h
    have h4 := h.2.2
    rw [if_neg (fun g => by have := l0.mp ((lg_cmp_lt _ _).mp g); omega), if_neg (fun g => by have := l8.mp ((lg_cmp_ge _ _).mp g); omega)]
    have e2 : (lN W - 29184) - 48 = lN (sg (q + 1) - 48) := by
      rw [show (29184 : Int64) = lN 29184 from rfl, lN_sub (by omega), show (48 : Int64) = lN 48 from rfl, lN_sub (by omega), show W - 29184 - 48 = sg (q + 1) - 48 by omega]
    rw [e2, lN_i]
  · by_cases g : W < 29232
    · rw [if_pos ((lg_cmp_lt _ _).mpr (l0.mpr g))]
    · rw [if_neg (fun g' => g (l0.mp ((lg_cmp_lt _ _).mp g'))), if_pos ((lg_cmp_ge _ _).mpr (l8.mpr ((hr.2 h).resolve_left g)))]
theorem mo_named {L : Nat} {sg : Nat → Nat} {m : St} (hT : TXM L sg m) {q n : Nat} (hq : q + n < 2 ^ 30) (h24 : m.1 0 24 = 2) (h25 : m.1 0 25 = nI q) (h26 : m.1 0 26 = nI (q + n)) : (rgn sg q n → f_Mo_named m = some (nI (sg (q + 1) - 48))) ∧ (¬ rgn sg q n → f_Mo_named m = some (-1)) := by
  have h256 := hT.2.2.2.2
  have x := h256 q
  have y := h256 (q + 1)
  unfold f_Mo_named rgn
  rw [if_pos h24, h25, h26, nI_sub (by omega), show q + n - q = n by omega, mo_sign hT (by omega), nI_1, mo_sign hT (by omega)]
  simp only [Option.bind_some]
  by_cases n2 : n = 2
  · rw [if_pos (show nI n = 2 by rw [n2]; rfl)]
    by_cases a : sg q = 114
    · rw [if_pos (show nI (sg q) = 114 by rw [a]; rfl)]
      by_cases b : sg (q + 1) < 48
      · rw [if_pos (show nI (sg (q + 1)) < 48 from nI_lt (b := 48) b (by decide))]; exact ⟨fun h => by omega, fun _ => rfl⟩
      · rw [if_neg (show ¬ nI (sg (q + 1)) < 48 from nI_nlt (b := 48) (by omega) (by omega))]
        by_cases d : 55 < sg (q + 1)
        · rw [if_pos (show 55 < nI (sg (q + 1)) from nI_lt (a := 55) d (by omega))]; exact ⟨fun h => by omega, fun _ => rfl⟩
        · rw [if_neg (show ¬ 55 < nI (sg (q + 1)) from nI_nlt (a := 55) (by omega) (by decide)), show (48 : Int32) = nI 48 from rfl, nI_sub (by omega)]
          exact ⟨fun _ => rfl, fun h => absurd ⟨n2, a, by omega, by omega⟩ h⟩
    · rw [if_neg (show ¬ nI (sg q) = 114 from ne_l (k := 114) (by omega) (by omega) a)]; exact ⟨fun h => absurd h.2.1 a, fun _ => rfl⟩
  · rw [if_neg (show ¬ nI n = 2 from fun h => n2 ((nI_eq (b := 2) (by omega) (by decide)).mp h))]; exact ⟨fun h => absurd h.1 n2, fun _ => rfl⟩
/-- instructions by name -/
theorem mo_wordOf {L : Nat} {sg : Nat → Nat} {m : St} (hT : TXM L sg m) {q n : Nat} (hq : q + n < 2 ^ 30) (h26 : m.1 0 26 = nI (q + n)) : wh (fun a : (Int64 × Int32) => f_Mo_instruction_L7 a.1 a.2 m) (0, nI q) = some (lN (wn sg q n), nI (q + n)) := by
  have h256 := hT.2.2.2.2
  have st : ∀ i, 0 ≤ i → i < n → f_Mo_instruction_L7 (lN (wn sg q i)) (nI (q + i)) m = some (.inl (lN (wn sg q (i + 1)), nI (q + (i + 1)))) := by
    intro i _ hi
    unfold f_Mo_instruction_L7
    rw [h26, if_neg (nI_ge (by omega) (by omega)), mo_sign hT (by omega), Option.bind_some, sh8L (h256 _), lt_eq, nI_1]
    rfl
  have en : f_Mo_instruction_L7 (lN (wn sg q n)) (nI (q + n)) m = some (.inr (lN (wn sg q n), nI (q + n))) := by
    unfold f_Mo_instruction_L7
    rw [h26, if_pos (nI_le (Nat.le_refl _) (by omega))]
  exact wh_cnt (f := fun a : (Int64 × Int32) => f_Mo_instruction_L7 a.1 a.2 m) (g := fun i => (lN (wn sg q i), nI (q + i))) (r := n) n 0 (by omega) st en
theorem ins_eq {L : Nat} {sg : Nat → Nat} {c m : St} (hN : NM c) (hT : TXM L sg m) {q n : Nat} (hq : q + n < 2 ^ 30) (h25 : m.1 0 25 = nI q) (h26 : m.1 0 26 = nI (q + n)) : ∃ o, f_As_instruction (lN (wn sg q n)) c = some o ∧ f_Mo_instruction m = some o ∧ (o = -1 ∨ ∃ k, k ≤ 50 ∧ o = nI k ∧ f_Mo_name (nI k) = lN (wn sg q n)) := by
  generalize hw : lN (wn sg q n) = w
  have e1 : ∀ i, i < 51 → f_As_instruction_L2 w (nI i) c = if f_Mo_name (nI i) = w then some (.inr (.inr (nI i))) else some (.inl (nI (i + 1))) := by
    intro i hi
    unfold f_As_instruction_L2
    rw [if_neg (show ¬ 51 ≤ nI i from nI_ge (b := 51) hi (by decide)), gd_nI hi (by omega), nI_clamp (by omega), hN i hi, nI_1]
    by_cases e : f_Mo_name (nI i) = w
    · rw [if_pos ((lg_cmp_eq _ _).mpr e), if_pos e]
    · rw [if_neg (fun h => e ((lg_cmp_eq _ _).mp h)), if_neg e]
  have e2 : ∀ i, i < 51 → f_Mo_instruction_L35 w (nI i) m = if f_Mo_name (nI i) = w then some (.inr (.inr (nI i))) else some (.inl (nI (i + 1))) := by
    intro i hi
    unfold f_Mo_instruction_L35
    rw [if_neg (show ¬ 51 ≤ nI i from nI_ge (b := 51) hi (by decide)), nI_1]
    by_cases e : f_Mo_name (nI i) = w
    · rw [if_pos ((lg_cmp_eq _ _).mpr e), if_pos e]
    · rw [if_neg (fun h => e ((lg_cmp_eq _ _).mp h)), if_neg e]
  have s1 := wh_search (f := fun a : Int32 => f_As_instruction_L2 w a c) (n := 51) (fun i => f_Mo_name (nI i) = w) (fun i => nI i) (by show f_As_instruction_L2 w (nI 51) c = _; unfold f_As_instruction_L2; rw [if_pos (by decide)]) (fun i hi hp => (e1 i hi).trans (if_pos hp)) (fun i hi hp => (e1 i hi).trans (if_neg hp)) 0 (by omega)
  have s2 := wh_search (f := fun a : Int32 => f_Mo_instruction_L35 w a m) (n := 51) (fun i => f_Mo_name (nI i) = w) (fun i => nI i) (by show f_Mo_instruction_L35 w (nI 51) m = _; unfold f_Mo_instruction_L35; rw [if_pos (by decide)]) (fun i hi hp => (e2 i hi).trans (if_pos hp)) (fun i hi hp => (e2 i hi).trans (if_neg hp)) 0 (by omega)
  have mw := mo_wordOf hT hq h26
  rw [hw] at mw
  unfold f_As_instruction f_Mo_instruction
  rw [h25, lt_eq, mw, Option.bind_some]
  rw [nI_0] at s1 s2
  rcases s1 with ⟨a1, a2⟩ | ⟨i, i1, i2, i3, i4, i5⟩
  · rcases s2 with ⟨b1, b2⟩ | ⟨j, j1, j2, j3, j4, j5⟩
    · exact ⟨-1, by rw [a2]; rfl, by rw [b2]; rfl, .inl rfl⟩
    · exact absurd j3 (a1 j j1 j2)
  · rcases s2 with ⟨b1, b2⟩ | ⟨j, j1, j2, j3, j4, j5⟩
    · exact absurd i3 (b1 i i1 i2)
    · have e : i = j := least_one (p := fun i => f_Mo_name (nI i) = w) (q := fun i => f_Mo_name (nI i) = w) (i0 := 0) (fun _ _ _ => Iff.rfl) i1 j1 i3 i4 j3 j4
      subst e
      exact ⟨nI i, by rw [i5]; rfl, by rw [j5]; rfl, .inr ⟨i, by omega, rfl, i3⟩⟩
/-- labels -/
theorem mo_same {L : Nat} {sg : Nat → Nat} {m : St} (hT : TXM L sg m) {a b n k : Nat} (ha : a + n < 2 ^ 30) (hb : b + n < 2 ^ 30) (hn : n < 1000) (hk : k < 1000) : ((n = k ∧ ∀ i, i < n → sg (a + i) = sg (b + i)) → f_Mo_isSame (nI a) (nI n) (nI b) (nI k) m = some 1) ∧ (¬ (n = k ∧ ∀ i, i < n → sg (a + i) = sg (b + i)) → f_Mo_isSame (nI a) (nI n) (nI b) (nI k) m = some 0) := by
  have h256 := hT.2.2.2.2
  have z : ∀ x, wh (fun q : (Int32 × Int32) => f_Mo_isSame_L16 (nI a) (nI n) (nI b) q.1 q.2 m) (0, x) = some (0, x) := by
    intro x
    refine wh_inr ?_
    show f_Mo_isSame_L16 (nI a) (nI n) (nI b) 0 x m = _
    unfold f_Mo_isSame_L16
    rw [if_pos rfl]
  have st : ∀ i, i < n → f_Mo_isSame_L16 (nI a) (nI n) (nI b) 1 (nI i) m = if sg (a + i) = sg (b + i) then some (.inl (1, nI (i + 1))) else some (.inl (0, nI (i + 1))) := by
    intro i hi
    have x := h256 (a + i)
    have y := h256 (b + i)
    unfold f_Mo_isSame_L16 f_Mo_isSame_J51_1
    rw [if_neg (by decide), if_neg (nI_ge (by omega) (by omega)), nI_add, nI_add, mo_sign hT (by omega), mo_sign hT (by omega)]
    simp only [Option.bind_some, nI_1]
    by_cases e : sg (a + i) = sg (b + i)
    · rw [if_pos (by rw [e]), if_pos e]
    · rw [if_neg (fun h => e ((nI_eq (by omega) (by omega)).mp h)), if_neg e]
  have w1 : ∀ d i, i + d = n → ∃ x, ((∀ j, i ≤ j → j < n → sg (a + j) = sg (b + j)) → wh (fun q : (Int32 × Int32) => f_Mo_isSame_L16 (nI a) (nI n) (nI b) q.1 q.2 m) (1, nI i) = some (1, x)) ∧ (¬ (∀ j, i ≤ j → j < n → sg (a + j) = sg (b + j)) → wh (fun q : (Int32 × Int32) => f_Mo_isSame_L16 (nI a) (nI n) (nI b) q.1 q.2 m) (1, nI i) = some (0, x)) := by
    intro d
    induction d with
    | zero =>
      intro i hi
      refine ⟨nI i, fun _ => wh_inr ?_, fun h => absurd (fun j a b => by omega) h⟩
      show f_Mo_isSame_L16 (nI a) (nI n) (nI b) 1 (nI i) m = _
      unfold f_Mo_isSame_L16
      rw [if_neg (by decide), if_pos (nI_le (by omega) (by omega))]
    | succ d ih =>
      intro i hi
      have hs := st i (by omega)
      obtain ⟨x, i1, i2⟩ := ih (i + 1) (by omega)
      by_cases q : sg (a + i) = sg (b + i)
      · rw [if_pos q] at hs
        rw [wh_inl (a' := (1, nI (i + 1))) hs]
        refine ⟨x, fun h => i1 (fun j a b => h j (by omega) b), fun h => i2 (fun h2 => h (fun j a b => ?_))⟩
        by_cases e : j = i
        · rw [e]; exact q
        · exact h2 j (by omega) b
      · rw [if_neg q] at hs
        rw [wh_inl (a' := (0, nI (i + 1))) hs]
        exact ⟨nI (i + 1), fun h => absurd (h i (by omega) (by omega)) q, fun _ => z _⟩
  unfold f_Mo_isSame f_Mo_isSame_J11
  by_cases e : n = k
  · subst e
    rw [if_pos rfl]
    obtain ⟨x, x1, x2⟩ := w1 n 0 (by omega)
    rw [nI_0] at x1 x2
    exact ⟨fun h => by rw [x1 (fun j _ b => h.2 j b)]; exact congrArg some bN_1, fun h => by rw [x2 (fun h2 => h ⟨rfl, fun j b => h2 j (by omega) b⟩)]; exact congrArg some bN_0⟩
  · rw [if_neg (fun h => e ((nI_eq (by omega) (by omega)).mp h)), z]
    exact ⟨fun h => absurd h.1 e, fun _ => congrArg some bN_0⟩
def LBL (sg : Nat → Nat) (N nl : Nat) (c m : St) : Prop := nl ≤ 200 ∧ c.1 2 4 = nI nl ∧ m.1 0 17 = nI nl ∧ ∀ i, i < nl → ∃ a n t, WD sg a n ∧ a ≤ 3000 ∧ c.2.1 5 i = lN (wn sg a n) ∧ m.1 6 i = nI a ∧ m.1 7 i = nI n ∧ t ≤ N ∧ c.1 6 i = nI t ∧ m.1 8 i = nI t
theorem find_eq {L : Nat} {sg : Nat → Nat} {c m : St} {N nl : Nat} (hT : TXM L sg m) (hL : LBL sg N nl c m) {a n : Nat} (ha : WD sg a n) (ha3 : a ≤ 3000) : ∃ r, f_As_findLabel (lN (wn sg a n)) c = some r ∧ f_Mo_labelOf (nI a) (nI n) m = some r ∧ (r = -1 ∨ ∃ i, i < nl ∧ r = nI i) := by
  have h256 := hT.2.2.2.2
  have hn := ha.2.1
  obtain ⟨l1, l2, l3, l4⟩ := hL
  have e1 : ∀ i, i < nl → f_As_findLabel_L2 (lN (wn sg a n)) (nI i) c = if c.2.1 5 i = lN (wn sg a n) then some (.inr (.inr (nI i))) else some (.inl (nI (i + 1))) := by
    intro i hi
    unfold f_As_findLabel_L2
    rw [l2, if_neg (nI_ge hi (by omega)), gd_nI (by omega) (by omega), nI_clamp (by omega), nI_1]
    by_cases e : c.2.1 5 i = lN (wn sg a n)
    · rw [if_pos ((lg_cmp_eq _ _).mpr e), if_pos e]
    · rw [if_neg (fun h => e ((lg_cmp_eq _ _).mp h)), if_neg e]
  have e2 : ∀ i, i < nl → f_Mo_labelOf_L2 (nI a) (nI n) (nI i) m = if c.2.1 5 i = lN (wn sg a n) then some (.inr (.inr (nI i))) else some (.inl (nI (i + 1))) := by
    intro i hi
    obtain ⟨b, k, t, b1, b2, b3, b4, b5, _⟩ := l4 i hi
    have hk := b1.2.1
    obtain ⟨s1, s2⟩ := mo_same hT (a := a) (b := b) (n := n) (k := k) (by omega) (by omega) (by omega) (by omega)
    have hiff := wn_inj h256 ha b1
    unfold f_Mo_labelOf_L2
    rw [l3, if_neg (nI_ge hi (by omega)), gd_nI (by omega) (by omega), gd_nI (by omega) (by omega), nI_clamp (by omega), b4, b5, nI_1]
    by_cases e : c.2.1 5 i = lN (wn sg a n)
    · rw [if_pos e, s1 (hiff.mp (e.symm.trans b3)), Option.bind_some, if_neg (by decide)]
    · rw [if_neg e, s2 (fun h => e (b3.trans (hiff.mpr h).symm)), Option.bind_some, if_pos rfl]
  have z1 : f_As_findLabel_L2 (lN (wn sg a n)) (nI nl) c = some (.inr (.inl (nI nl))) := by
    unfold f_As_findLabel_L2; rw [l2, if_pos (nI_le (Nat.le_refl _) (by omega))]
  have z2 : f_Mo_labelOf_L2 (nI a) (nI n) (nI nl) m = some (.inr (.inl (nI nl))) := by
    unfold f_Mo_labelOf_L2; rw [l3, if_pos (nI_le (Nat.le_refl _) (by omega))]
  have s1 := wh_search (f := fun q : Int32 => f_As_findLabel_L2 (lN (wn sg a n)) q c) (n := nl) (fun i => c.2.1 5 i = lN (wn sg a n)) (fun i => nI i) z1 (fun i hi hp => (e1 i hi).trans (if_pos hp)) (fun i hi hp => (e1 i hi).trans (if_neg hp)) 0 (by omega)
  have s2 := wh_search (f := fun q : Int32 => f_Mo_labelOf_L2 (nI a) (nI n) q m) (n := nl) (fun i => c.2.1 5 i = lN (wn sg a n)) (fun i => nI i) z2 (fun i hi hp => (e2 i hi).trans (if_pos hp)) (fun i hi hp => (e2 i hi).trans (if_neg hp)) 0 (by omega)
  unfold f_As_findLabel f_Mo_labelOf
  rw [nI_0] at s1 s2
  rcases s1 with ⟨a1, a2⟩ | ⟨i, i1, i2, i3, i4, i5⟩
  · rcases s2 with ⟨b1, b2⟩ | ⟨j, j1, j2, j3, j4, j5⟩
    · exact ⟨-1, by rw [a2]; rfl, by rw [b2]; rfl, .inl rfl⟩
    · exact absurd j3 (a1 j j1 j2)
  · rcases s2 with ⟨b1, b2⟩ | ⟨j, j1, j2, j3, j4, j5⟩
    · exact absurd i3 (b1 i i1 i2)
    · have e : i = j := least_one (p := fun i => c.2.1 5 i = lN (wn sg a n)) (q := fun i => c.2.1 5 i = lN (wn sg a n)) (i0 := 0) (fun _ _ _ => Iff.rfl) i1 j1 i3 i4 j3 j4
      subst e
      exact ⟨nI i, by rw [i5]; rfl, by rw [j5]; rfl, .inr ⟨i, i2, rfl⟩⟩
theorem rgn_wn {sg : Nat → Nat} {q n : Nat} (h : rgn sg q n) : wn sg q n = 29232 + (sg (q + 1) - 48) := by
  obtain ⟨rfl, h1, h2, h3⟩ := h
  have e : wn sg q 2 = (0 * 256 + sg (q + 0)) * 256 + sg (q + 1) := rfl
  rw [Nat.add_zero, h1] at e
  omega
theorem no_reg_name : ∀ (k : Fin 51) (r : Fin 8), f_Mo_name (nI k.val) ≠ lN (29232 + r.val) := by decide +kernel
