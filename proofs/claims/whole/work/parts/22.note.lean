/-! ===== numbers ===== -/
theorem nI_mul (a b : Nat) : nI a * nI b = nI (a * b) := (Int32.ofNat_mul a b).symm
theorem ix8 (z a : Nat) : (8 : Int32) * nI z + nI a = nI (8 * z + a) := by rw [show (8 : Int32) = nI 8 from rfl, nI_mul, nI_add]
theorem ix4096 (z a : Nat) : (4096 : Int32) * nI z + nI a = nI (4096 * z + a) := by rw [show (4096 : Int32) = nI 4096 from rfl, nI_mul, nI_add]
theorem ix101 (z a : Nat) : (101 : Int32) * nI z + nI a = nI (101 * z + a) := by rw [show (101 : Int32) = nI 101 from rfl, nI_mul, nI_add]
theorem ix32 (z a : Nat) : (32 : Int32) * nI z + nI a = nI (32 * z + a) := by rw [show (32 : Int32) = nI 32 from rfl, nI_mul, nI_add]
theorem gd_nI {β : Type} {n N : Nat} {o : Option β} (h : n < N) (hN : N < 2 ^ 31) : gd (nI n) N o = o := by unfold gd; rw [if_neg (nI_in h hN)]
theorem nI_lit (n : Nat) : (OfNat.ofNat n : Int32) = nI n := rfl
theorem nI_le_l {n k : Nat} (h : n < 2 ^ 31) (hk : k < 2 ^ 31) : (nI k ≤ nI n) ↔ k ≤ n := nI_leI hk h
theorem nI_sub {a b : Nat} (h : b ≤ a) : nI a - nI b = nI (a - b) := by
  have e : nI a = nI (a - b) + nI b := by rw [nI_add]; congr 1; omega
  rw [e]
  exact Int32.add_sub_cancel (nI (a - b)) (nI b)
theorem nI_of' {x : Int32} (h : 0 ≤ x) : ∃ j : Nat, j < 2 ^ 31 ∧ x = nI j := nI_of (Int32.not_lt.mpr h)
theorem nI_rng {x : Int32} {n : Nat} (hn : n < 2 ^ 31) (h : 0 ≤ x) (h2 : x < nI n) : ∃ j : Nat, j < n ∧ x = nI j := by
  obtain ⟨j, hj, rfl⟩ := nI_of' h
  exact ⟨j, (nI_ltI hj hn).mp h2, rfl⟩
theorem nI_rngL {x : Int32} {n : Nat} (hn : n < 2 ^ 31) (h : 0 ≤ x) (h2 : x ≤ nI n) : ∃ j : Nat, j ≤ n ∧ x = nI j := by
  obtain ⟨j, hj, rfl⟩ := nI_of' h
  exact ⟨j, (nI_leI hj hn).mp h2, rfl⟩
/-! ===== the ledger ===== -/
def LG (z B n : Nat) (c m : St) : Prop := ∃ kept rep sup supp : Nat, c.1 (B + 17) 4 = nI kept ∧ kept ≤ 60 ∧ c.1 (B + 17) 5 = nI rep ∧ c.1 (B + 17) 6 = nI sup ∧ rep + sup ≤ n ∧ c.1 (B + 17) 10 = nI supp ∧ supp ≤ 20 ∧ (z = 0 → m.1 0 64 = if rep = 0 ∧ sup = 0 then 1 else 0)
/-- is this report to be left out? -/
def lgS (B : Nat) (c : St) (v1 v2 : Int32) (i : Nat) : Prop := (c.1 (B + 22) i = 0 ∨ c.1 (B + 22) i = v1) ∧ ¬ v2 < c.1 (B + 23) i ∧ ¬ c.1 (B + 24) i < v2
theorem lg_sup_step {B : Nat} {c : St} {v1 v2 : Int32} {i n : Nat} (hn : c.1 (B + 17) 10 = nI n) (h20 : n ≤ 20) (hi : i ≤ n) :
    (i = n → f_Lg_isSuppressed_L2 B v1 v2 (nI i) c = some (.inr (.inl (nI i)))) ∧ (i < n → lgS B c v1 v2 i → f_Lg_isSuppressed_L2 B v1 v2 (nI i) c = some (.inr (.inr 1)))
    ∧ (i < n → ¬ lgS B c v1 v2 i → f_Lg_isSuppressed_L2 B v1 v2 (nI i) c = some (.inl (nI (i + 1)))) := by
  have e1 : (nI i).toNatClampNeg = i := nI_clamp (by omega)
  have g1 : ∀ {β : Type} (o : Option β), i < n → gd (nI i) 20 o = o := fun o h => gd_nI (by omega) (by omega)
  refine ⟨fun h => ?_, fun h hs => ?_, fun h hs => ?_⟩
  · subst h; unfold f_Lg_isSuppressed_L2; rw [hn, if_pos (nI_le (Nat.le_refl _) (by omega))]
  · unfold f_Lg_isSuppressed_L2 f_Lg_isSuppressed_J29_1 f_Lg_isSuppressed_J34_1
    obtain ⟨h1, h2, h3⟩ := hs
    rw [hn, if_neg (nI_ge h (by omega))]
    simp only [g1 _ h, e1, h2, h3, if_false]
    by_cases h4 : c.1 (B + 22) i = 0
    · simp [h4]
    · have h5 := h1.resolve_left h4
      simp [h5]
  · unfold f_Lg_isSuppressed_L2 f_Lg_isSuppressed_J29_1 f_Lg_isSuppressed_J34_1 f_Lg_isSuppressed_J63_1
    rw [hn, if_neg (nI_ge h (by omega))]
    simp only [g1 _ h, e1, nI_1]
    unfold lgS at hs
    by_cases h4 : c.1 (B + 22) i = 0 <;> by_cases h5 : c.1 (B + 22) i = v1 <;> by_cases h6 : v2 < c.1 (B + 23) i <;> by_cases h7 : c.1 (B + 24) i < v2 <;> simp_all
theorem mo_sup_step {m : St} {v1 v2 : Int32} {i n : Nat} (hn : m.1 0 68 = nI n) (h20 : n ≤ 20) (hi : i ≤ n) :
    (i = n → f_Mo_told_L16 v1 v2 (nI i) m = some (.inr (.inl (nI i)))) ∧ (i < n → ((m.1 42 i = 0 ∨ m.1 42 i = v1) ∧ ¬ m.1 0 69 < m.1 43 i ∧ m.1 0 69 ≤ m.1 44 i) → f_Mo_told_L16 v1 v2 (nI i) m = some (.inr (.inr (uI m 0 63 (m.1 0 63 + 1)))))
    ∧ (i < n → ¬ ((m.1 42 i = 0 ∨ m.1 42 i = v1) ∧ ¬ m.1 0 69 < m.1 43 i ∧ m.1 0 69 ≤ m.1 44 i) → f_Mo_told_L16 v1 v2 (nI i) m = some (.inl (nI (i + 1)))) := by
  have e1 : (nI i).toNatClampNeg = i := nI_clamp (by omega)
  have g1 : ∀ {β : Type} (o : Option β), i < n → gd (nI i) 20 o = o := fun o h => gd_nI (by omega) (by omega)
  refine ⟨fun h => ?_, fun h hs => ?_, fun h hs => ?_⟩
  · subst h; unfold f_Mo_told_L16; rw [hn, if_pos (nI_le (Nat.le_refl _) (by omega))]
  · unfold f_Mo_told_L16 f_Mo_told_J43_1 f_Mo_told_J83_1
    obtain ⟨h1, h2, h3⟩ := hs
    rw [hn, if_neg (nI_ge h (by omega))]
    simp only [g1 _ h, e1, h2, h3, if_false, if_true]
    by_cases h4 : m.1 42 i = 0
    · simp [h4, lt]
    · have h5 := h1.resolve_left h4
      simp [h5, lt]
  · unfold f_Mo_told_L16 f_Mo_told_J43_1 f_Mo_told_J83_1
    rw [hn, if_neg (nI_ge h (by omega))]
    simp only [g1 _ h, e1, nI_1]
    grind
theorem lg_find_step {B : Nat} {c : St} {v1 v2 v3 : Int32} {i n : Nat} (hn : c.1 (B + 17) 4 = nI n) (h60 : n ≤ 60) (hi : i ≤ n) :
    (i = n → f_Lg_find_L3 B v1 v2 v3 (nI i) c = some (.inr (.inl (nI i)))) ∧ (i < n → (c.1 (B + 18) i = v1 ∧ c.1 (B + 19) i = v2 ∧ c.1 (B + 20) i = v3) → f_Lg_find_L3 B v1 v2 v3 (nI i) c = some (.inr (.inr (nI i))))
    ∧ (i < n → ¬ (c.1 (B + 18) i = v1 ∧ c.1 (B + 19) i = v2 ∧ c.1 (B + 20) i = v3) → f_Lg_find_L3 B v1 v2 v3 (nI i) c = some (.inl (nI (i + 1)))) := by
  have e1 : (nI i).toNatClampNeg = i := nI_clamp (by omega)
  have g1 : ∀ {β : Type} (o : Option β), i < n → gd (nI i) 60 o = o := fun o h => gd_nI (by omega) (by omega)
  refine ⟨fun h => ?_, fun h hs => ?_, fun h hs => ?_⟩
  · subst h; unfold f_Lg_find_L3; rw [hn, if_pos (nI_le (Nat.le_refl _) (by omega))]
  · unfold f_Lg_find_L3
    obtain ⟨h1, h2, h3⟩ := hs
    rw [hn, if_neg (nI_ge h (by omega))]
    simp only [g1 _ h, e1, h1, h2, h3, if_true]
  · unfold f_Lg_find_L3 f_Lg_find_J48_1
    rw [hn, if_neg (nI_ge h (by omega))]
    simp only [g1 _ h, e1, nI_1]
    by_cases h4 : c.1 (B + 18) i = v1 <;> by_cases h5 : c.1 (B + 19) i = v2 <;> by_cases h6 : c.1 (B + 20) i = v3 <;> simp_all
theorem mo_find_step {m : St} {v1 v2 : Int32} {i n : Nat} (hn : m.1 0 61 = nI n) (h60 : n ≤ 60) (hi : i ≤ n) :
    (i = n → f_Mo_told_L101 v1 v2 (nI i) m = some (.inr (.inl (nI i)))) ∧ (i < n → (m.1 38 i = v1 ∧ m.1 39 i = m.1 0 69 ∧ m.1 40 i = v2) → f_Mo_told_L101 v1 v2 (nI i) m = some (.inr (.inr (uI m 41 i (m.1 41 i + 1)))))
    ∧ (i < n → ¬ (m.1 38 i = v1 ∧ m.1 39 i = m.1 0 69 ∧ m.1 40 i = v2) → f_Mo_told_L101 v1 v2 (nI i) m = some (.inl (nI (i + 1)))) := by
  have e1 : (nI i).toNatClampNeg = i := nI_clamp (by omega)
  have g1 : ∀ {β : Type} (o : Option β), i < n → gd (nI i) 60 o = o := fun o h => gd_nI (by omega) (by omega)
  refine ⟨fun h => ?_, fun h hs => ?_, fun h hs => ?_⟩
  · subst h; unfold f_Mo_told_L101; rw [hn, if_pos (nI_le (Nat.le_refl _) (by omega))]
  · unfold f_Mo_told_L101
    obtain ⟨h1, h2, h3⟩ := hs
    rw [hn, if_neg (nI_ge h (by omega))]
    simp only [g1 _ h, e1, h1, h2, h3, if_true, lt]
  · unfold f_Mo_told_L101 f_Mo_told_J156_1
    rw [hn, if_neg (nI_ge h (by omega))]
    simp only [g1 _ h, e1, nI_1]
    by_cases h4 : m.1 38 i = v1 <;> by_cases h5 : m.1 39 i = m.1 0 69 <;> by_cases h6 : m.1 40 i = v2 <;> simp_all
theorem lg_note {B : Nat} {c : St} {v1 v2 v3 : Int32} {kept supp : Nat} (hk : c.1 (B + 17) 4 = nI kept) (h60 : kept ≤ 60) (hs : c.1 (B + 17) 10 = nI supp) (h20 : supp ≤ 20) :
    ((∃ i, i < supp ∧ lgS B c v1 v2 i) ∧ f_Lg_note B v1 v2 v3 c = some (uI c (B + 17) 6 (c.1 (B + 17) 6 + 1)))
    ∨ ((∀ i, i < supp → ¬ lgS B c v1 v2 i) ∧ ∃ i, i < kept ∧ (c.1 (B + 18) i = v1 ∧ c.1 (B + 19) i = v2 ∧ c.1 (B + 20) i = v3) ∧ (∀ j, j < i → ¬ (c.1 (B + 18) j = v1 ∧ c.1 (B + 19) j = v2 ∧ c.1 (B + 20) j = v3)) ∧ f_Lg_note B v1 v2 v3 c = some (uI (uI c (B + 17) 5 (c.1 (B + 17) 5 + 1)) (B + 21) i (c.1 (B + 21) i + 1)))
    ∨ ((∀ i, i < supp → ¬ lgS B c v1 v2 i) ∧ (∀ i, i < kept → ¬ (c.1 (B + 18) i = v1 ∧ c.1 (B + 19) i = v2 ∧ c.1 (B + 20) i = v3)) ∧ ((kept = 60 ∧ f_Lg_note B v1 v2 v3 c = some (uI c (B + 17) 5 (c.1 (B + 17) 5 + 1)))
      ∨ (kept < 60 ∧ f_Lg_note B v1 v2 v3 c = some (uI (uI (uI (uI (uI (uI c (B + 17) 5 (c.1 (B + 17) 5 + 1)) (B + 18) kept v1) (B + 19) kept v2) (B + 20) kept v3) (B + 21) kept 1) (B + 17) 4 (nI (kept + 1)))))) := by
  have hw := wh_search (f := fun a : Int32 => f_Lg_isSuppressed_L2 B v1 v2 a c) (n := supp) (lgS B c v1 v2) (fun _ => (1 : Int32)) ((lg_sup_step hs h20 (Nat.le_refl _)).1 rfl) (fun i hi hp => (lg_sup_step hs h20 (by omega)).2.1 hi hp) (fun i hi hp => (lg_sup_step hs h20 (by omega)).2.2 hi hp) 0 (by omega)
  rw [nI_0] at hw
  unfold f_Lg_note f_Lg_isSuppressed
  rcases hw with ⟨h1, h2⟩ | ⟨i, _, hi, hp, _, h2⟩
  · right
    rw [h2]
    simp only [Option.bind_some, Sum.elim_inl, if_true, lt]
    obtain ⟨c1, hc1⟩ : ∃ c1, c1 = uI c (B + 17) 5 (c.1 (B + 17) 5 + 1) := ⟨_, rfl⟩
    rw [← hc1]
    have hk1 : c1.1 (B + 17) 4 = nI kept := by rw [hc1, uI_o (by omega)]; exact hk
    have e18 : c1.1 (B + 18) = c.1 (B + 18) := by rw [hc1, uI_n (by omega)]
    have e19 : c1.1 (B + 19) = c.1 (B + 19) := by rw [hc1, uI_n (by omega)]
    have e20 : c1.1 (B + 20) = c.1 (B + 20) := by rw [hc1, uI_n (by omega)]
    have e21 : c1.1 (B + 21) = c.1 (B + 21) := by rw [hc1, uI_n (by omega)]
    have hw2 := wh_search (f := fun a : Int32 => f_Lg_find_L3 B v1 v2 v3 a c1) (n := kept) (fun i => c1.1 (B + 18) i = v1 ∧ c1.1 (B + 19) i = v2 ∧ c1.1 (B + 20) i = v3) (fun i => nI i) ((lg_find_step hk1 h60 (Nat.le_refl _)).1 rfl) (fun i hi hp => (lg_find_step hk1 h60 (by omega)).2.1 hi hp) (fun i hi hp => (lg_find_step hk1 h60 (by omega)).2.2 hi hp) 0 (by omega)
    rw [nI_0, e18, e19, e20] at hw2
    unfold f_Lg_find
    rcases hw2 with ⟨h3, h4⟩ | ⟨i, _, hi, hp, hp2, h4⟩
    · right
      refine ⟨fun i hi => h1 i (by omega) hi, fun i hi => h3 i (by omega) hi, ?_⟩
      rw [h4]
      simp only [Option.bind_some, Sum.elim_inl, if_true, hk1]
      by_cases e : kept = 60
      · left; refine ⟨e, ?_⟩
        rw [e, if_pos (by decide)]
      · right
        have e1 : (nI kept).toNatClampNeg = kept := nI_clamp (by omega)
        refine ⟨by omega, ?_⟩
        rw [if_neg (show ¬ (60 : Int32) ≤ nI kept from nI_ge (b := 60) (by omega) (by decide))]
        rw [gd_nI (by omega) (by omega)]
        simp only [e1]
        rw [uI_o (by omega), hk1, gd_nI (by omega) (by omega)]
        simp only [e1]
        rw [uI_o (by omega), uI_o (by omega), hk1, gd_nI (by omega) (by omega)]
        simp only [e1]
        rw [uI_o (by omega), uI_o (by omega), uI_o (by omega), hk1, gd_nI (by omega) (by omega)]
        simp only [e1]
        rw [uI_o (by omega), uI_o (by omega), uI_o (by omega), uI_o (by omega), hk1, nI_1]
    · left
      refine ⟨fun i hi => h1 i (by omega) hi, i, hi, hp, fun j hj => hp2 j (by omega) hj, ?_⟩
      rw [h4]
      have e1 : (nI i).toNatClampNeg = i := nI_clamp (by omega)
      have hne : ¬ nI i = -1 := by
        intro e
        have e3 := congrArg Int32.toInt e
        rw [nI_toInt (by omega)] at e3
        have e4 : (-1 : Int32).toInt = -1 := by decide
        rw [e4] at e3; omega
      simp only [Option.bind_some, Sum.elim_inr, hne, if_false, e1, e21]
      rw [gd_nI (by omega) (by omega), gd_nI (by omega) (by omega)]
  · left
    refine ⟨⟨i, hi, hp⟩, ?_⟩
    rw [h2]
    simp [lt]
theorem mo_told {m : St} {v1 v2 : Int32} {kept supp : Nat} (hz : m.1 0 28 = 0) (hk : m.1 0 61 = nI kept) (h60 : kept ≤ 60) (hs : m.1 0 68 = nI supp) (h20 : supp ≤ 20) :
    ((∃ i, i < supp ∧ ((m.1 42 i = 0 ∨ m.1 42 i = v1) ∧ ¬ m.1 0 69 < m.1 43 i ∧ m.1 0 69 ≤ m.1 44 i)) ∧ f_Mo_told v1 v2 m = some (uI (uI m 0 64 0) 0 63 (m.1 0 63 + 1)))
    ∨ ((∀ i, i < supp → ¬ ((m.1 42 i = 0 ∨ m.1 42 i = v1) ∧ ¬ m.1 0 69 < m.1 43 i ∧ m.1 0 69 ≤ m.1 44 i)) ∧ ∃ i, i < kept ∧ (m.1 38 i = v1 ∧ m.1 39 i = m.1 0 69 ∧ m.1 40 i = v2) ∧ (∀ j, j < i → ¬ (m.1 38 j = v1 ∧ m.1 39 j = m.1 0 69 ∧ m.1 40 j = v2)) ∧ f_Mo_told v1 v2 m = some (uI (uI (uI m 0 64 0) 0 62 (m.1 0 62 + 1)) 41 i (m.1 41 i + 1)))
    ∨ ((∀ i, i < supp → ¬ ((m.1 42 i = 0 ∨ m.1 42 i = v1) ∧ ¬ m.1 0 69 < m.1 43 i ∧ m.1 0 69 ≤ m.1 44 i)) ∧ (∀ i, i < kept → ¬ (m.1 38 i = v1 ∧ m.1 39 i = m.1 0 69 ∧ m.1 40 i = v2)) ∧ ((kept = 60 ∧ f_Mo_told v1 v2 m = some (uI (uI m 0 64 0) 0 62 (m.1 0 62 + 1)))
      ∨ (kept < 60 ∧ f_Mo_told v1 v2 m = some (uI (uI (uI (uI (uI (uI (uI m 0 64 0) 0 62 (m.1 0 62 + 1)) 38 kept v1) 39 kept (m.1 0 69)) 40 kept v2) 41 kept 1) 0 61 (nI (kept + 1)))))) := by
  obtain ⟨m1, hm1⟩ : ∃ m1, m1 = uI m 0 64 0 := ⟨_, rfl⟩
  have e68 : m1.1 0 68 = nI supp := by rw [hm1, uI_o (by omega)]; exact hs
  have e69 : m1.1 0 69 = m.1 0 69 := by rw [hm1, uI_o (by omega)]
  have e63 : m1.1 0 63 = m.1 0 63 := by rw [hm1, uI_o (by omega)]
  have e62 : m1.1 0 62 = m.1 0 62 := by rw [hm1, uI_o (by omega)]
  have e42 : ∀ k, k ≠ 0 → m1.1 k = m.1 k := fun k hk => by rw [hm1, uI_n hk]
  have hw := wh_search (f := fun a : Int32 => f_Mo_told_L16 v1 v2 a m1) (n := supp) (fun i => (m1.1 42 i = 0 ∨ m1.1 42 i = v1) ∧ ¬ m1.1 0 69 < m1.1 43 i ∧ m1.1 0 69 ≤ m1.1 44 i) (fun _ => uI m1 0 63 (m1.1 0 63 + 1)) ((mo_sup_step e68 h20 (Nat.le_refl _)).1 rfl) (fun i hi hp => (mo_sup_step e68 h20 (by omega)).2.1 hi hp) (fun i hi hp => (mo_sup_step e68 h20 (by omega)).2.2 hi hp) 0 (by omega)
  rw [nI_0, e42 42 (by omega), e42 43 (by omega), e42 44 (by omega), e69, e63] at hw
  unfold f_Mo_told
  rw [hz, if_neg (by decide), ← hm1]
  simp only [lt]
  rcases hw with ⟨h1, h2⟩ | ⟨i, _, hi, hp, _, h2⟩
  · right
    rw [h2]
    simp only [Option.bind_some, Sum.elim_inl, e62]
    obtain ⟨m2, hm2⟩ : ∃ m2, m2 = uI m1 0 62 (m.1 0 62 + 1) := ⟨_, rfl⟩
    rw [← hm2]
    have k61 : m2.1 0 61 = nI kept := by rw [hm2, uI_o (by omega), hm1, uI_o (by omega)]; exact hk
    have k69 : m2.1 0 69 = m.1 0 69 := by rw [hm2, uI_o (by omega)]; exact e69
    have k42 : ∀ k, k ≠ 0 → m2.1 k = m.1 k := fun k hk => by rw [hm2, uI_n hk]; exact e42 k hk
    have hw2 := wh_search (f := fun a : Int32 => f_Mo_told_L101 v1 v2 a m2) (n := kept) (fun i => m2.1 38 i = v1 ∧ m2.1 39 i = m2.1 0 69 ∧ m2.1 40 i = v2) (fun i => uI m2 41 i (m2.1 41 i + 1)) ((mo_find_step k61 h60 (Nat.le_refl _)).1 rfl) (fun i hi hp => (mo_find_step k61 h60 (by omega)).2.1 hi hp) (fun i hi hp => (mo_find_step k61 h60 (by omega)).2.2 hi hp) 0 (by omega)
    rw [nI_0, k42 38 (by omega), k42 39 (by omega), k42 40 (by omega), k42 41 (by omega), k69] at hw2
    rcases hw2 with ⟨h3, h4⟩ | ⟨i, _, hi, hp, hp2, h4⟩
    · right
      refine ⟨fun i hi => h1 i (by omega) hi, fun i hi => h3 i (by omega) hi, ?_⟩
      rw [h4]
      simp only [Option.bind_some, Sum.elim_inl, k61]
      by_cases e : kept = 60
      · left; refine ⟨e, ?_⟩
        rw [e, if_pos (show nI 60 = 60 from rfl)]
      · right
        have e1 : (nI kept).toNatClampNeg = kept := nI_clamp (by omega)
        refine ⟨by omega, ?_⟩
        rw [if_neg (show ¬ nI kept = 60 from fun h => e ((nI_eq (b := 60) (by omega) (by decide)).mp h))]
        have g1 : ∀ {β : Type} (o : Option β), gd (nI kept) 60 o = o := fun o => gd_nI (by omega) (by omega)
        simp [uI_g2, k61, k69, g1, e1, nI_1]
    · left
      refine ⟨fun i hi => h1 i (by omega) hi, i, hi, hp, fun j hj => hp2 j (by omega) hj, ?_⟩
      rw [h4]
      rfl
  · left
    refine ⟨⟨i, hi, hp⟩, ?_⟩
    rw [h2]
    rfl
