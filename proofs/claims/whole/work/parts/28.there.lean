/-! ===== blocks told by an address ===== -/
theorem up8_n {x : Nat} (h : x < 4096) : f_Mo_up8 (nI x) = nI (8 * ((x + 7) / 8)) := by
  have h1 : ∀ x : Fin 2048, f_Mo_up8 (nI x.val) = nI (8 * ((x.val + 7) / 8)) := by decide +kernel
  have h2 : ∀ x : Fin 2048, f_Mo_up8 (nI (2048 + x.val)) = nI (8 * ((2048 + x.val + 7) / 8)) := by decide +kernel
  by_cases g : x < 2048
  · exact h1 ⟨x, g⟩
  · have := h2 ⟨x - 2048, by omega⟩
    dsimp only at this
    rw [show 2048 + (x - 2048) = x by omega] at this
    exact this
theorem div8_n {x : Nat} (h : x < 2048) : nI x / 8 = nI (x / 8) := by
  have : ∀ x : Fin 2048, nI x.val / 8 = nI (x.val / 8) := by decide +kernel
  exact this ⟨x, h⟩
theorem units_n {x : Nat} (h : x ≤ 512) : f_He_unitsOf (nI x) = nI (2 + (x + 7) / 8) := by
  have : ∀ x : Fin 513, f_He_unitsOf (nI x.val) = nI (2 + (x.val + 7) / 8) := by decide +kernel
  exact this ⟨x, by omega⟩
theorem nI_dec (j : Nat) : nI (j + 1) + -1 = nI j := by
  rw [nI_succ, Int32.add_assoc, show (1 : Int32) + -1 = 0 by decide, Int32.add_zero]
theorem wh_run {α : Type} {f : Int32 → Option (Int32 ⊕ α)} {i0 i1 : Nat} (h : ∀ i, i0 ≤ i → i < i1 → f (nI i) = some (.inl (nI (i + 1)))) (hi : i0 ≤ i1) : wh f (nI i0) = wh f (nI i1) := by
  obtain ⟨d, hd⟩ : ∃ d, i1 = i0 + d := ⟨i1 - i0, by omega⟩
  subst hd
  clear hi
  induction d with
  | zero => rfl
  | succ d ih => rw [ih (fun i a b => h i a (by omega)), wh_inl (h (i0 + d) (by omega) (by omega))]; rfl
theorem wh_dn {α : Type} {f : Int32 → Option (Int32 ⊕ α)} {w : Nat} : ∀ d, (∀ j, w < j → j ≤ w + d → f (nI j) = some (.inl (nI (j - 1)))) → wh f (nI (w + d)) = wh f (nI w)
  | 0, _ => rfl
  | d + 1, h => by
    rw [wh_inl (h (w + (d + 1)) (by omega) (by omega)), show w + (d + 1) - 1 = w + d by omega]
    exact wh_dn d (fun j a b => h j a (by omega))
/-- a block's cells on both sides -/
theorem HX_cells {z B : Nat} {c0 m0 c m : St} (h : RB z B c0 m0 c m) {k qs qe : Nat} {F S C W Q : Nat → Nat} (hH : HX z B c m k qs qe F S C W Q) {j : Nat} (h1 : 1 ≤ j) (hj : j ≤ k) :
    m.1 28 (101 * z + j) = nI (1032 + 8 * F j) ∧ m.1 29 (101 * z + j) = nI (S j) ∧ m.1 30 (101 * z + j) = nI (C j) ∧ S j ≤ 512 ∧ F j + (2 + (S j + 7) / 8) ≤ 256 ∧ C j ≤ 2 := by
  obtain ⟨g1, g2, g3, _⟩ := hH
  obtain ⟨e1, e2, e3, e4⟩ := g3 j h1 hj
  exact ⟨(RB_eq h (phi_blk (d := 7) (by omega) (by omega) (show j < 101 by omega))).symm.trans e1, (RB_eq h (phi_blk (d := 8) (by omega) (by omega) (show j < 101 by omega))).symm.trans e2, (RB_eq h (phi_blk (d := 9) (by omega) (by omega) (show j < 101 by omega))).symm.trans e3, e4⟩
/-- block j spans the byte v1 -/
def spn (F S C : Nat → Nat) (y j : Nat) : Prop := C j ≠ 0 ∧ 1024 + 8 * F j ≤ y ∧ y < 1024 + 8 * (F j + (2 + (S j + 7) / 8))
theorem mo_at_step {z B : Nat} {c0 m0 c m : St} (h : RB z B c0 m0 c m) {k qs qe : Nat} {F S C W Q : Nat → Nat} (hH : HX z B c m k qs qe F S C W Q) {j : Nat} (h1 : 1 ≤ j) (hj : j ≤ k) (v1 : Int32) :
    ((C j ≠ 0 ∧ ¬ v1 < nI (1024 + 8 * F j) ∧ ¬ nI (1024 + 8 * (F j + (2 + (S j + 7) / 8))) ≤ v1) → f_Mo_blockAt_L10 v1 (nI j) m = some (.inr (.inr (nI j))))
    ∧ (¬ (C j ≠ 0 ∧ ¬ v1 < nI (1024 + 8 * F j) ∧ ¬ nI (1024 + 8 * (F j + (2 + (S j + 7) / 8))) ≤ v1) → f_Mo_blockAt_L10 v1 (nI j) m = some (.inl (nI (j - 1)))) := by
  obtain ⟨e1, e2, e3, e4, e5, e6⟩ := HX_cells h hH h1 hj
  have hk := hH.2.1
  have hz := RB_zb h
  have a1 : nI (1032 + 8 * F j) - 8 = nI (1024 + 8 * F j) := by rw [show (8 : Int32) = nI 8 from rfl, nI_sub (by omega)]; congr 1; omega
  have a2 : f_Mo_up8 (nI (1032 + 8 * F j) + nI (S j)) + 8 = nI (1024 + 8 * (F j + (2 + (S j + 7) / 8))) := by
    rw [nI_add, up8_n (by omega), show (8 : Int32) = nI 8 from rfl, nI_add]; congr 1; omega
  have a3 : nI j + -1 = nI (j - 1) := by have := nI_dec (j - 1); rw [show j - 1 + 1 = j by omega] at this; exact this
  have a4 : (nI (C j) ≤ 0) ↔ C j = 0 := by rw [show (0 : Int32) = nI 0 from rfl, nI_leI (by omega) (by omega)]; omega
  unfold f_Mo_blockAt_L10 f_Mo_blockAt_J71_1
  rw [if_neg (nI_nle (by omega) (by omega)), RB_z h, ix101]
  simp only [lt, gd_nI (show 101 * z + j < 202 by omega) (show 202 < 2 ^ 31 by omega), nI_clamp (show 101 * z + j < 2 ^ 31 by omega), e1, e2, e3, a1, a2, a3, a4]
  grind
theorem bl_at {z B n i N : Nat} {t : Int32} {c0 m0 c m : St} (h : SI z B n i N t c0 m0 c m) (v1 : Int32) : ∃ w, w ≤ 100 ∧ f_He_ownerOf B v1 c = some (nI w) ∧ f_Mo_blockAt v1 m = some (nI w) := by
  obtain ⟨hR, _, _, _, _, ⟨k, qs, qe, F, S, C, W, Q, hH⟩, _⟩ := h
  have hz := RB_zb hR
  have hk := hH.2.1
  have hk34 : m.1 34 z = nI k := (RB_eq hR (show phi z 6 5 = some (34, z) from rfl)).symm.trans hH.1
  have step := fun j h1 hj => mo_at_step hR hH (j := j) h1 hj v1
  have fin : ∀ w, w ≤ k → (∀ j, 1 ≤ j → j ≤ k → w < j → ¬ (C j ≠ 0 ∧ ¬ v1 < nI (1024 + 8 * F j) ∧ ¬ nI (1024 + 8 * (F j + (2 + (S j + 7) / 8))) ≤ v1)) → (w ≠ 0 → (C w ≠ 0 ∧ ¬ v1 < nI (1024 + 8 * F w) ∧ ¬ nI (1024 + 8 * (F w + (2 + (S w + 7) / 8))) ≤ v1)) → f_Mo_blockAt v1 m = some (nI w) := by
    intro w hw h1 h2
    unfold f_Mo_blockAt
    rw [RB_z hR, gd_nI hz (by omega), nI_clamp (by omega), hk34]
    simp only [lt]
    have e := wh_dn (f := fun a : Int32 => f_Mo_blockAt_L10 v1 a m) (w := w) (k - w) (fun j a b => (step j (by omega) (by omega)).2 (h1 j (by omega) (by omega) a))
    rw [show w + (k - w) = k by omega] at e
    rw [e]
    by_cases h0 : w = 0
    · subst h0
      rw [wh_inr (b := .inl (nI 0)) (by show f_Mo_blockAt_L10 v1 (nI 0) m = _; unfold f_Mo_blockAt_L10; rw [if_pos (by decide)])]; rfl
    · rw [wh_inr (b := .inr (nI w)) ((step w (by omega) hw).1 (h2 h0))]; rfl
  by_cases hl : v1 < 1024
  · refine ⟨0, by omega, by unfold f_He_ownerOf; rw [if_pos hl]; rfl, fin 0 (by omega) (fun j h1 hj _ hc => hc.2.1 ?_) (fun h => absurd rfl h)⟩
    exact Int32.lt_of_lt_of_le hl (nI_le (a := 1024) (by omega) (by have := (HX_cells hR hH h1 hj).2.2.2.2.1; omega))
  · by_cases hg : v1 < 3072
    · obtain ⟨y, hy, rfl⟩ : ∃ y, y < 3072 ∧ v1 = nI y := nI_rng (n := 3072) (by decide) (Int32.le_trans (by decide) (Int32.not_lt.mp hl)) hg
      have hy1 : 1024 ≤ y := (nI_leI (a := 1024) (by decide) (by omega)).mp (Int32.not_lt.mp hl)
      obtain ⟨u, hu⟩ : ∃ u, u = (y - 1024) / 8 := ⟨_, rfl⟩
      obtain ⟨w1, w2, w3⟩ := hH.2.2.2.1 u (by omega)
      have hO := hH.2.2.2.2.1
      refine ⟨W u, by omega, ?_, fin (W u) w2 (fun j h1 hj hlt hc => ?_) (fun h0 => ?_)⟩
      · unfold f_He_ownerOf
        rw [if_neg hl, if_pos hg, show (1024 : Int32) = nI 1024 from rfl, nI_sub hy1, div8_n (by omega), gd_nI (by omega) (by omega), nI_clamp (by omega), ← hu, w1]
      · obtain ⟨c1, c2, c3⟩ := hc
        have hb := (HX_cells hR hH h1 hj).2.2.2.2.1
        have c2' : 1024 + 8 * F j ≤ y := Nat.le_of_not_lt (fun hh => c2 (nI_lt hh (by omega)))
        have c3' : y < 1024 + 8 * (F j + (2 + (S j + 7) / 8)) := Nat.lt_of_not_le (fun hh => c3 (nI_le hh (by omega)))
        have := hO j h1 hj c1 u (by omega) (by omega)
        omega
      · obtain ⟨d1, d2, d3⟩ := w3 h0
        have hb := (HX_cells hR hH (j := W u) (by omega) w2).2.2.2.2.1
        exact ⟨d1, nI_nlt (by omega) (by omega), nI_ge (by omega) (by omega)⟩
    · refine ⟨0, by omega, by unfold f_He_ownerOf; rw [if_neg hl, if_neg hg]; rfl, fin 0 (by omega) (fun j h1 hj _ hc => hc.2.2 ?_) (fun h => absurd rfl h)⟩
      exact Int32.le_trans (nI_le (b := 3072) (by have := (HX_cells hR hH h1 hj).2.2.2.2.1; omega) (by decide)) (Int32.not_lt.mp hg)
/-! ===== are the bytes there? ===== -/
def cl (B : Nat) (c : St) (y : Int32) : Prop := f_Me_isByte y = 0 ∨ c.1 (B + 5) y.toNatClampNeg = 0
theorem isByte_in {y : Int32} (h : ¬ f_Me_isByte y = 0) : ∃ a, a < 4096 ∧ y = nI a := by
  unfold f_Me_isByte at h
  by_cases h1 : y < 0
  · rw [if_pos h1] at h; exact absurd rfl h
  · rw [if_neg h1] at h
    by_cases h2 : 4096 ≤ y
    · rw [if_pos h2] at h; exact absurd rfl h
    · exact nI_rng (n := 4096) (by decide) (Int32.not_lt.mp h1) (Int32.not_le.mp h2)
theorem mo_isThere {z B : Nat} {c0 m0 c m : St} (h : RB z B c0 m0 c m) (y : Int32) : (cl B c y → f_Mo_isThere y m = some 0) ∧ (¬ cl B c y → f_Mo_isThere y m = some 1) := by
  have hz := RB_zb h
  by_cases hb : f_Me_isByte y = 0
  · refine ⟨fun _ => ?_, fun hn => absurd (.inl hb) hn⟩
    unfold f_Me_isByte at hb
    unfold f_Mo_isThere
    by_cases h1 : y < 0
    · rw [if_pos h1]
    · rw [if_neg h1] at hb ⊢
      by_cases h2 : 4096 ≤ y
      · rw [if_pos h2]
      · rw [if_neg h2] at hb; exact absurd hb (by decide)
  · obtain ⟨a, ha, rfl⟩ := isByte_in hb
    have e := (RB_mem h ha).2.2.2
    have e1 : f_Mo_isThere (nI a) m = if c.1 (B + 5) a = 0 then some 0 else some 1 := by
      unfold f_Mo_isThere
      rw [if_neg (nI_pos (by omega)), if_neg (show ¬ (4096 : Int32) ≤ nI a from nI_ge (b := 4096) ha (by decide)), RB_z h, ix4096, gd_nI (by omega) (by omega), nI_clamp (by omega), e]
    unfold cl
    rw [nI_clamp (by omega), e1]
    refine ⟨fun hc => if_pos (hc.resolve_left hb), fun hc => if_neg (fun h => hc (.inr h))⟩
theorem me_fc {B : Nat} {c : St} (x : Int32) {k : Nat} (hk : k ≤ 256) :
    ((∀ i, i < k → ¬ cl B c (x + nI i)) ∧ f_Me_firstClosed B x (nI k) c = some (-1)) ∨ (∃ i, i < k ∧ cl B c (x + nI i) ∧ (∀ j, j < i → ¬ cl B c (x + nI j)) ∧ f_Me_firstClosed B x (nI k) c = some (nI i)) := by
  have hw := wh_search (f := fun a : Int32 => f_Me_firstClosed_L2 B x (nI k) a c) (n := k) (fun i => cl B c (x + nI i)) (fun i => nI i)
    (by show f_Me_firstClosed_L2 B x (nI k) (nI k) c = _; unfold f_Me_firstClosed_L2; rw [if_pos (nI_le (Nat.le_refl _) (by omega))])
    (fun i hi hp => by
      show f_Me_firstClosed_L2 B x (nI k) (nI i) c = _
      unfold f_Me_firstClosed_L2
      rw [if_neg (nI_ge hi (by omega))]
      by_cases hb : f_Me_isByte (x + nI i) = 0
      · rw [if_pos hb]
      · rw [if_neg hb]
        obtain ⟨a, ha, e⟩ := isByte_in hb
        have hp2 := hp.resolve_left hb
        rw [e] at hp2 ⊢
        rw [gd_nI ha (by omega), if_pos hp2])
    (fun i hi hp => by
      show f_Me_firstClosed_L2 B x (nI k) (nI i) c = _
      unfold f_Me_firstClosed_L2
      rw [if_neg (nI_ge hi (by omega))]
      have hb : ¬ f_Me_isByte (x + nI i) = 0 := fun h => hp (.inl h)
      have hp2 : ¬ c.1 (B + 5) (x + nI i).toNatClampNeg = 0 := fun h => hp (.inr h)
      rw [if_neg hb]
      obtain ⟨a, ha, e⟩ := isByte_in hb
      rw [e] at hp2 ⊢
      rw [gd_nI ha (by omega), if_neg hp2, nI_1]) 0 (by omega)
  unfold f_Me_firstClosed
  rw [nI_0] at hw
  rcases hw with ⟨h1, h2⟩ | ⟨i, _, h2, h3, h4, h5⟩
  · exact .inl ⟨fun i hi => h1 i (by omega) hi, by rw [h2]; rfl⟩
  · exact .inr ⟨i, h2, h3, fun j hj => h4 j (by omega) hj, by rw [h5]; rfl⟩
theorem nI_nm1 {i : Nat} (h : i < 2 ^ 31) : ¬ nI i = -1 := by
  intro e
  have e3 := congrArg Int32.toInt e
  rw [nI_toInt h] at e3
  have e4 : (-1 : Int32).toInt = -1 := by decide
  rw [e4] at e3; omega
theorem cl_all {B : Nat} {c : St} {x : Int32} {k : Nat} (hk : k ≤ 256) (h : ∀ i, i < k → ¬ cl B c (x + nI i)) : k = 0 ∨ ∃ a, x = nI a ∧ a + k ≤ 4096 ∧ ∀ i, i < k → c.1 (B + 5) (a + i) ≠ 0 := by
  by_cases h0 : k = 0
  · exact .inl h0
  · right
    have h1 := h 0 (by omega)
    rw [nI_0, Int32.add_zero] at h1
    obtain ⟨a, ha, rfl⟩ := isByte_in (fun e => h1 (.inl e))
    have hb : ∀ i, i < k → a + i < 4096 := by
      intro i hi
      have h2 := h i hi
      rw [nI_add] at h2
      obtain ⟨a', ha', e⟩ := isByte_in (fun e => h2 (.inl e))
      have := (nI_eq (by omega) (by omega)).mp e
      omega
    refine ⟨a, rfl, by have := hb (k - 1) (by omega); omega, fun i hi hc => ?_⟩
    have h2 := h i hi
    rw [nI_add] at h2
    exact h2 (.inr (by rw [nI_clamp (by have := hb i hi; omega)]; exact hc))
theorem S_valid {z B n i N : Nat} {t : Int32} {c0 m0 c m : St} (h : SI z B n i N t c0 m0 c m) (x : Int32) {k : Nat} (hk : k ≤ 256) :
    ((k = 0 ∨ ∃ a, x = nI a ∧ a + k ≤ 4096 ∧ ∀ i, i < k → c.1 (B + 5) (a + i) ≠ 0) ∧ f_Ma_isValid B x (nI k) c = some (1, c) ∧ f_Mo_areThere x (nI k) m = some (1, m))
    ∨ ∃ c' m', f_Ma_isValid B x (nI k) c = some (0, c') ∧ f_Mo_areThere x (nI k) m = some (0, m') ∧ SI z B (n + 1) i N t c0 m0 c' m' ∧ NT B c m c' m' := by
  have hT := fun y => mo_isThere h.1 y
  have go : ∀ j, j < k → ¬ cl B c (x + nI j) → f_Mo_areThere_L2 x (nI k) (nI j) m = some (.inl (nI (j + 1))) := by
    intro j hj hc
    unfold f_Mo_areThere_L2
    rw [if_neg (nI_ge hj (by omega)), (hT _).2 hc]
    simp only [Option.bind_some]
    rw [if_neg (by decide), nI_1]
  rcases me_fc (B := B) (c := c) x hk with ⟨h1, h2⟩ | ⟨j, hj, hc, hj2, h2⟩
  · refine .inl ⟨cl_all hk h1, ?_, ?_⟩
    · unfold f_Ma_isValid; rw [h2]; simp
    · have e : wh (fun a => f_Mo_areThere_L2 x (nI k) a m) (nI 0) = wh (fun a => f_Mo_areThere_L2 x (nI k) a m) (nI k) := wh_run (fun i _ hi => go i hi (h1 i hi)) (by omega)
      unfold f_Mo_areThere
      rw [← nI_0, e, wh_inr (b := .inl (nI k)) (by show f_Mo_areThere_L2 x (nI k) (nI k) m = _; unfold f_Mo_areThere_L2; rw [if_pos (nI_le (Nat.le_refl _) (by omega))])]
      rfl
  · obtain ⟨w, hw, e1, e2⟩ := bl_at h (x + nI j)
    obtain ⟨c', m', f1, f2, f3, f4⟩ := S_note h 6 (nI w)
    refine .inr ⟨c', m', ?_, ?_, f3, f4⟩
    · unfold f_Ma_isValid
      rw [h2]
      simp only [Option.bind_some]
      rw [if_neg (nI_nm1 (by omega)), e1]
      simp only [Option.bind_some, f1]
    · have e : wh (fun a => f_Mo_areThere_L2 x (nI k) a m) (nI 0) = wh (fun a => f_Mo_areThere_L2 x (nI k) a m) (nI j) := wh_run (fun i _ hi => go i (by omega) (hj2 i hi)) (by omega)
      unfold f_Mo_areThere
      rw [← nI_0, e, wh_inr (b := .inr (0, m')) (by
        show f_Mo_areThere_L2 x (nI k) (nI j) m = _
        unfold f_Mo_areThere_L2
        rw [if_neg (nI_ge hj (by omega)), (hT _).1 hc]
        simp only [Option.bind_some]
        rw [if_pos trivial, e2]
        simp only [Option.bind_some, f2])]
      rfl
