/-! ===== pure layer: total runs ===== -/
def Ok {α : Type} (x : Option α) (P : α → Prop) : Prop := ∃ a, x = some a ∧ P a
theorem ok_some {α : Type} {a : α} {P : α → Prop} : Ok (some a) P ↔ P a := by simp [Ok]
theorem ok_none {α : Type} {P : α → Prop} : Ok (none : Option α) P ↔ False := by simp [Ok]
theorem ok_bind {α β : Type} {x : Option α} {f : α → Option β} {P : β → Prop} : Ok (x.bind f) P ↔ Ok x fun a => Ok (f a) P := by
  cases x <;> simp [Ok]
theorem ok_lt {α β : Type} {e : α} {f : α → Option β} {P : β → Prop} : Ok (lt e f) P ↔ Ok (f e) P := Iff.rfl
theorem ok_gd {β : Type} {i : Int32} {n : Nat} {o : Option β} {P : β → Prop} : Ok (gd i n o) P ↔ (0 ≤ i ∧ i.toNatClampNeg < n) ∧ Ok o P := by
  unfold gd
  by_cases h : i < 0 ∨ n ≤ i.toNatClampNeg
  · rw [if_pos h]
    constructor
    · intro h2; exact absurd h2 (by simp [Ok])
    · rintro ⟨⟨h3, h4⟩, _⟩
      rcases h with h | h
      · exact absurd h (Int32.not_lt.mpr h3)
      · omega
  · rw [if_neg h]
    constructor
    · intro h2; refine ⟨⟨?_, ?_⟩, h2⟩
      · exact Int32.not_lt.mp (fun h3 => h (.inl h3))
      · exact Nat.lt_of_not_le (fun h3 => h (.inr h3))
    · exact fun h2 => h2.2
theorem ok_gz {β : Type} {v : Int32} {o : Option β} {P : β → Prop} : Ok (gz v o) P ↔ (v = 0 ∨ v = 1) ∧ Ok o P := by
  unfold gz
  by_cases h : v = 0 ∨ v = 1
  · rw [if_pos h]; simp [h]
  · rw [if_neg h]; simp [h, Ok]
theorem ok_gP {β : Type} {e : Nat} {f : Nat → Option β} {P : β → Prop} : Ok (gP e f) P ↔ isP e ∧ Ok (f e) P := by
  unfold gP
  by_cases h : isP e
  · rw [if_pos h]; simp [h]
  · rw [if_neg h]; simp [h, Ok]
theorem ok_ite {β : Type} {c : Prop} [Decidable c] {x y : Option β} {P : β → Prop} : Ok (if c then x else y) P ↔ (c → Ok x P) ∧ (¬ c → Ok y P) := by
  by_cases h : c <;> simp [h]
theorem ok_mono {α : Type} {x : Option α} {P Q : α → Prop} (h : Ok x P) (hq : ∀ a, P a → Q a) : Ok x Q := by
  obtain ⟨a, h1, h2⟩ := h; exact ⟨a, h1, hq a h2⟩
theorem ok_eq {α : Type} {x : Option α} {a : α} (h : x = some a) {P : α → Prop} : Ok x P ↔ P a := by rw [h, ok_some]
/-- a loop by an invariant with a measure -/
theorem ok_wh {α β : Type} {f : α → Option (α ⊕ β)} {P : β → Prop} (I : α → Prop) (μ : α → Nat)
    (h : ∀ a, I a → Ok (f a) (fun q => match q with | .inl a' => I a' ∧ μ a' < μ a | .inr b => P b)) (a : α) (ha : I a) : Ok (wh f a) P := by
  obtain ⟨n, hn⟩ : ∃ n, μ a ≤ n := ⟨_, Nat.le_refl _⟩
  induction n generalizing a with
  | zero =>
    obtain ⟨q, h1, h2⟩ := h a ha
    cases q with
    | inl a' => exact absurd h2.2 (by omega)
    | inr b => exact ⟨b, wh_inr h1, h2⟩
  | succ n ih =>
    obtain ⟨q, h1, h2⟩ := h a ha
    cases q with
    | inl a' => rw [wh_inl h1]; exact ih a' h2.1 (by omega)
    | inr b => exact ⟨b, wh_inr h1, h2⟩
/-- two loops side by side, each may go alone -/
theorem ok_wh2 {α β α' β' : Type} {f : α → Option (α ⊕ β)} {g : α' → Option (α' ⊕ β')} {Q : β → β' → Prop} (I : α → α' → Prop) (μ : α → α' → Nat)
    (h : ∀ a b, I a b → (∃ x y, f a = some (.inr x) ∧ g b = some (.inr y) ∧ Q x y) ∨ (∃ a', f a = some (.inl a') ∧ I a' b ∧ μ a' b < μ a b)
      ∨ (∃ b', g b = some (.inl b') ∧ I a b' ∧ μ a b' < μ a b) ∨ (∃ a' b', f a = some (.inl a') ∧ g b = some (.inl b') ∧ I a' b' ∧ μ a' b' < μ a b))
    (a : α) (b : α') (hab : I a b) : Ok (wh f a) fun x => Ok (wh g b) fun y => Q x y := by
  obtain ⟨n, hn⟩ : ∃ n, μ a b ≤ n := ⟨_, Nat.le_refl _⟩
  induction n generalizing a b with
  | zero =>
    rcases h a b hab with ⟨x, y, h1, h2, h3⟩ | ⟨a', _, _, h3⟩ | ⟨b', _, _, h3⟩ | ⟨a', b', _, _, _, h3⟩
    · exact ⟨x, wh_inr h1, y, wh_inr h2, h3⟩
    all_goals omega
  | succ n ih =>
    rcases h a b hab with ⟨x, y, h1, h2, h3⟩ | ⟨a', h1, h2, h3⟩ | ⟨b', h1, h2, h3⟩ | ⟨a', b', h1, h2, h3, h4⟩
    · exact ⟨x, wh_inr h1, y, wh_inr h2, h3⟩
    · rw [wh_inl h1]; exact ih a' b h2 (by omega)
    · have := ih a b' h2 (by omega)
      rw [wh_inl h1]; exact this
    · rw [wh_inl h1, wh_inl h2]; exact ih a' b' h3 (by omega)
theorem uI_g {s : St} {k j k' : Nat} {v : Int32} : (uI s k j v).1 k' = if k' = k then upd (s.1 k) j v else s.1 k' := by
  by_cases h : k' = k <;> simp [uI, uC, va_up, h]
theorem uI_e {s : St} {k j : Nat} {v : Int32} : (uI s k j v).1 k = upd (s.1 k) j v := by simp [uI, uC, va_up]
theorem uI_n {s : St} {k j k' : Nat} {v : Int32} (h : k' ≠ k) : (uI s k j v).1 k' = s.1 k' := by simp [uI, uC, va_up, h]
theorem uI_2 {s : St} {k j : Nat} {v : Int32} : (uI s k j v).2 = s.2 := rfl
theorem uR_1 {s : St} {q v : Nat} : (uR s q v).1 = s.1 := rfl
theorem uR_21 {s : St} {q v : Nat} : (uR s q v).2.1 = s.2.1 := rfl
theorem uR_22 {s : St} {q v q' : Nat} : (uR s q v).2.2 q' = if q' = q then v else s.2.2 q' := by simp [uR, va_up]
theorem uJ_11 {s : St} {k j : Nat} {v : Int64} : (uJ s k j v).1 = s.1 := rfl
theorem uJ_22 {s : St} {k j : Nat} {v : Int64} : (uJ s k j v).2.2 = s.2.2 := rfl
theorem upd_g {f : Nat → Int32} {k j : Nat} {x : Int32} : upd f k x j = if j = k then x else f j := rfl
theorem upd_e {f : Nat → Int32} {k : Nat} {x : Int32} : upd f k x k = x := by simp [upd]
theorem upd_n {f : Nat → Int32} {k j : Nat} {x : Int32} (h : j ≠ k) : upd f k x j = f j := by simp [upd, h]
theorem upd_same {f : Nat → Int32} {k : Nat} {x : Int32} (h : f k = x) : upd f k x = f := by
  funext j; simp only [upd]; split
  · next h2 => rw [h2, h]
  · rfl
theorem uI_same {s : St} {k j : Nat} {v : Int32} (h : s.1 k j = v) : uI s k j v = s := by
  unfold uI; rw [upd_same h]; unfold uC
  have : va_up s.1 k (s.1 k) = s.1 := by funext i; simp only [va_up]; split <;> simp_all
  rw [this]
/-- a search upwards -/
theorem wh_search {β : Type} {f : Int32 → Option (Int32 ⊕ (Int32 ⊕ β))} {n : Nat} (p : Nat → Prop) (r : Nat → β) (h0 : f (nI n) = some (.inr (.inl (nI n))))
    (h1 : ∀ i, i < n → p i → f (nI i) = some (.inr (.inr (r i)))) (h2 : ∀ i, i < n → ¬ p i → f (nI i) = some (.inl (nI (i + 1)))) (i0 : Nat) (hi : i0 ≤ n) :
    ((∀ i, i0 ≤ i → i < n → ¬ p i) ∧ wh f (nI i0) = some (.inl (nI n))) ∨ (∃ i, i0 ≤ i ∧ i < n ∧ p i ∧ (∀ j, i0 ≤ j → j < i → ¬ p j) ∧ wh f (nI i0) = some (.inr (r i))) := by
  obtain ⟨d, hd⟩ : ∃ d, d = n - i0 := ⟨_, rfl⟩
  induction d generalizing i0 with
  | zero =>
    have : i0 = n := by omega
    subst this
    exact .inl ⟨fun i h1 h2 => by omega, wh_inr h0⟩
  | succ d ih =>
    by_cases hp : p i0
    · exact .inr ⟨i0, Nat.le_refl _, by omega, hp, fun j h1 h2 => by omega, wh_inr (h1 i0 (by omega) hp)⟩
    · rw [wh_inl (h2 i0 (by omega) hp)]
      rcases ih (i0 + 1) (by omega) (by omega) with ⟨h3, h4⟩ | ⟨i, h3, h4, h5, h6, h7⟩
      · refine .inl ⟨fun i hi1 hi2 => ?_, h4⟩
        by_cases e : i = i0
        · rw [e]; exact hp
        · exact h3 i (by omega) hi2
      · refine .inr ⟨i, by omega, h4, h5, fun j hj1 hj2 => ?_, h7⟩
        by_cases e : j = i0
        · rw [e]; exact hp
        · exact h6 j (by omega) hj2
/-- the two least ones are one -/
theorem least_one {p q : Nat → Prop} {i0 i j : Nat} (hpq : ∀ k, i0 ≤ k → (k ≤ i ∨ k ≤ j) → (p k ↔ q k)) (hi0 : i0 ≤ i) (hj0 : i0 ≤ j) (hi : p i) (hi2 : ∀ k, i0 ≤ k → k < i → ¬ p k) (hj : q j) (hj2 : ∀ k, i0 ≤ k → k < j → ¬ q k) : i = j := by
  rcases Nat.lt_trichotomy i j with h | h | h
  · exact absurd ((hpq i hi0 (.inl (Nat.le_refl _))).mp hi) (hj2 i hi0 h)
  · exact h
  · exact absurd ((hpq j hj0 (.inr (Nat.le_refl _))).mpr hj) (hi2 j hj0 h)
