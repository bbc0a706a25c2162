/-! ===== a fresh start ===== -/
def inG (x : Nat) : Prop := 256 ≤ x ∧ x < 512
noncomputable def gS (x : Nat) : Int32 := if 256 ≤ x ∧ x < 512 then 0 else 255
noncomputable def gO (x : Nat) : Int32 := if 256 ≤ x ∧ x < 512 then 1 else 0
noncomputable def clC (B : Nat) (t : St) (x : Nat) : St := uI (uI (uI (uI t (B + 2) x 0) (B + 3) x (gS x)) (B + 4) x 0) (B + 5) x (gO x)
noncomputable def clM (z : Nat) (t : St) (x : Nat) : St := uI (uI (uI (uI t 16 (4096 * z + x) 0) 17 (4096 * z + x) (gS x)) 18 (4096 * z + x) 0) 19 (4096 * z + x) (gO x)
theorem clC_n {B : Nat} {t : St} {x q : Nat} (h : q < B + 2 ∨ B + 5 < q) : (clC B t x).1 q = t.1 q := by
  unfold clC; rw [uI_n (by omega), uI_n (by omega), uI_n (by omega), uI_n (by omega)]
theorem clM_n {z : Nat} {t : St} {x q : Nat} (h : q < 16 ∨ 19 < q) : (clM z t x).1 q = t.1 q := by
  unfold clM; rw [uI_n (by omega), uI_n (by omega), uI_n (by omega), uI_n (by omega)]
theorem clC_at {B : Nat} {c : St} {y : Nat} : ∀ n, y < n → (itN (clC B) c 0 n).1 (B + 2) y = 0 ∧ (itN (clC B) c 0 n).1 (B + 3) y = gS y ∧ (itN (clC B) c 0 n).1 (B + 4) y = 0 ∧ (itN (clC B) c 0 n).1 (B + 5) y = gO y
  | 0, h => by omega
  | n + 1, h => by
    have e : itN (clC B) c 0 (n + 1) = clC B (itN (clC B) c 0 n) (0 + n) := rfl
    rw [e, Nat.zero_add]
    by_cases hy : y = n
    · subst hy
      unfold clC
      rw [uI_n (show B + 2 ≠ B + 5 by omega), uI_n (show B + 2 ≠ B + 4 by omega), uI_n (show B + 2 ≠ B + 3 by omega), uI_v, uI_n (show B + 3 ≠ B + 5 by omega), uI_n (show B + 3 ≠ B + 4 by omega), uI_v, uI_n (show B + 4 ≠ B + 5 by omega), uI_v, uI_v]
      exact ⟨rfl, rfl, rfl, rfl⟩
    · obtain ⟨h1, h2, h3, h4⟩ := clC_at (B := B) (c := c) (y := y) n (by omega)
      generalize itN (clC B) c 0 n = t at h1 h2 h3 h4
      unfold clC
      rw [uI_o (by omega), uI_o (by omega), uI_o (by omega), uI_o (by omega), uI_o (by omega), uI_o (by omega), uI_o (by omega), uI_o (by omega), uI_o (by omega), uI_o (by omega), uI_o (by omega), uI_o (by omega), uI_o (by omega), uI_o (by omega), uI_o (by omega), uI_o (by omega)]
      exact ⟨h1, h2, h3, h4⟩
theorem clM_at {z : Nat} {m : St} {y : Nat} : ∀ n, y < n → (itN (clM z) m 0 n).1 16 (4096 * z + y) = 0 ∧ (itN (clM z) m 0 n).1 17 (4096 * z + y) = gS y ∧ (itN (clM z) m 0 n).1 18 (4096 * z + y) = 0 ∧ (itN (clM z) m 0 n).1 19 (4096 * z + y) = gO y
  | 0, h => by omega
  | n + 1, h => by
    have e : itN (clM z) m 0 (n + 1) = clM z (itN (clM z) m 0 n) (0 + n) := rfl
    rw [e, Nat.zero_add]
    by_cases hy : y = n
    · subst hy
      unfold clM
      rw [uI_n (show 16 ≠ 19 by omega), uI_n (show 16 ≠ 18 by omega), uI_n (show 16 ≠ 17 by omega), uI_v, uI_n (show 17 ≠ 19 by omega), uI_n (show 17 ≠ 18 by omega), uI_v, uI_n (show 18 ≠ 19 by omega), uI_v, uI_v]
      exact ⟨rfl, rfl, rfl, rfl⟩
    · obtain ⟨h1, h2, h3, h4⟩ := clM_at (z := z) (m := m) (y := y) n (by omega)
      generalize itN (clM z) m 0 n = t at h1 h2 h3 h4
      unfold clM
      rw [uI_o (by omega), uI_o (by omega), uI_o (by omega), uI_o (by omega), uI_o (by omega), uI_o (by omega), uI_o (by omega), uI_o (by omega), uI_o (by omega), uI_o (by omega), uI_o (by omega), uI_o (by omega), uI_o (by omega), uI_o (by omega), uI_o (by omega), uI_o (by omega)]
      exact ⟨h1, h2, h3, h4⟩
theorem clM_o {z : Nat} {m : St} {q j : Nat} (n : Nat) (h : ¬ (4096 * z ≤ j ∧ j < 4096 * z + n)) : (itN (clM z) m 0 n).1 q j = m.1 q j := by
  refine itN_inv (fun t => t.1 q j = m.1 q j) rfl n (fun t i hi ht => ?_)
  unfold clM
  rw [uI_o (by omega), uI_o (by omega), uI_o (by omega), uI_o (by omega)]; exact ht
theorem me_clearL {B : Nat} {c : St} : wh (fun a : (Int32 × St) => f_Me_clear_L12 B a.1 a.2) (0, c) = some (4096, itN (clC B) c 0 4096) := by
  have hw := wh_it (L := fun a : (Int32 × St) => f_Me_clear_L12 B a.1 a.2) (f := clC B) (s := c) (a := 0) 0 4096 (fun _ => True) trivial
    (fun t i hi _ => ⟨by
      dsimp only
      have g1 : ∀ {β : Type} (q : Option β), gd (nI i) 4096 q = q := fun q => gd_nI hi (by omega)
      have k1 : (nI i).toNatClampNeg = i := nI_clamp (by omega)
      rw [Nat.zero_add]
      unfold f_Me_clear_L12 f_Me_clear_J37_1 f_Me_clear_J38_1 f_Me_clear_J62_1 clC gS gO
      rw [if_neg (show ¬ 4096 ≤ nI i from nI_ge (b := 4096) hi (by omega))]
      simp only [g1, k1, lt, nI_1, if_true, if_neg (show ¬ (1 : Int32) = 0 by decide), bN0, bN1]
      by_cases h1 : i < 256
      · rw [if_pos (show nI i < 256 from nI_lt (b := 256) h1 (by omega)), if_neg (by omega), if_neg (by omega)]
      · rw [if_neg (show ¬ nI i < 256 from nI_nlt (b := 256) (by omega) (by omega))]
        by_cases h2 : 512 ≤ i
        · rw [if_pos (show 512 ≤ nI i from nI_le (a := 512) h2 (by omega)), if_neg (by omega), if_neg (by omega)]
        · rw [if_neg (show ¬ 512 ≤ nI i from nI_ge (b := 512) (by omega) (by omega)), if_pos (by omega), if_pos (by omega)], trivial⟩)
    (fun t _ => by
      dsimp only
      unfold f_Me_clear_L12
      rw [if_pos (by decide)])
  exact hw.1
theorem mo_clearL {z : Nat} {m : St} (hz : m.1 0 28 = nI z) (h2 : z < 2) : wh (fun a : (Int32 × St) => f_Mo_start_L267 a.1 a.2) (0, m) = some (4096, itN (clM z) m 0 4096) := by
  have hw := wh_it (L := fun a : (Int32 × St) => f_Mo_start_L267 a.1 a.2) (f := clM z) (s := m) (a := 0) 0 4096 (fun t => t.1 0 28 = nI z) hz
    (fun t i hi ht => ⟨by
      dsimp only
      have g1 : ∀ {β : Type} (q : Option β), gd (nI (4096 * z + i)) 8192 q = q := fun q => gd_nI (by omega) (by omega)
      have k1 : (nI (4096 * z + i)).toNatClampNeg = 4096 * z + i := nI_clamp (by omega)
      rw [Nat.zero_add]
      unfold f_Mo_start_L267 f_Mo_start_J295_1 f_Mo_start_J296_1 f_Mo_start_J342_1 clM gS gO
      rw [if_neg (show ¬ 4096 ≤ nI i from nI_ge (b := 4096) hi (by omega))]
      simp only [lt, uI_n (show (0 : Nat) ≠ 16 by omega), uI_n (show (0 : Nat) ≠ 17 by omega), uI_n (show (0 : Nat) ≠ 18 by omega), ht, ix4096, g1, k1, nI_1, if_true, if_neg (show ¬ (1 : Int32) = 0 by decide), bN0, bN1]
      by_cases h1 : i < 256
      · rw [if_pos (show nI i < 256 from nI_lt (b := 256) h1 (by omega)), if_neg (by omega), if_neg (by omega)]
      · rw [if_neg (show ¬ nI i < 256 from nI_nlt (b := 256) (by omega) (by omega))]
        by_cases h2 : 512 ≤ i
        · rw [if_pos (show 512 ≤ nI i from nI_le (a := 512) h2 (by omega)), if_neg (by omega), if_neg (by omega)]
        · rw [if_neg (show ¬ 512 ≤ nI i from nI_ge (b := 512) (by omega) (by omega)), if_pos (by omega), if_pos (by omega)], by rw [clM_n (by omega)]; exact ht⟩)
    (fun t _ => by
      dsimp only
      unfold f_Mo_start_L267
      rw [if_pos (by decide)])
  exact hw.1
/-! registers drawn -/
def rgC (B : Nat) (t : St) (x : Nat) : St := dP (uI t (B + 1) 4 (dw (t.1 (B + 1) 4))) (B + 26 + x) (dv (dw (t.1 (B + 1) 4))) (-1) (nI (x + 1))
def rgM (z : Nat) (t : St) (x : Nat) : St := uI (uI (uI (uI t 24 z (dw (t.1 24 z))) 13 (8 * z + x) (dv (dw (t.1 24 z)))) 14 (8 * z + x) (-1)) 15 (8 * z + x) (nI (x + 1))
theorem rg_eq {z B : Nat} {c m : St} (h0 : c.1 (B + 1) 4 = m.1 24 z) : ∀ n, n ≤ 8 → (itN (rgC B) c 0 n).1 (B + 1) 4 = (itN (rgM z) m 0 n).1 24 z ∧ ∀ r, r < n → (itN (rgC B) c 0 n).1 (B + 26 + r) 0 = (itN (rgM z) m 0 n).1 13 (8 * z + r) ∧ (itN (rgC B) c 0 n).1 (B + 26 + r) 1 = -1 ∧ (itN (rgM z) m 0 n).1 14 (8 * z + r) = -1 ∧ (itN (rgC B) c 0 n).1 (B + 26 + r) 2 = nI (r + 1) ∧ (itN (rgM z) m 0 n).1 15 (8 * z + r) = nI (r + 1)
  | 0, _ => ⟨h0, fun r hr => by omega⟩
  | n + 1, hn => by
    obtain ⟨h1, h2⟩ := rg_eq h0 n (by omega)
    have e1 : itN (rgC B) c 0 (n + 1) = rgC B (itN (rgC B) c 0 n) (0 + n) := rfl
    have e2 : itN (rgM z) m 0 (n + 1) = rgM z (itN (rgM z) m 0 n) (0 + n) := rfl
    rw [e1, e2, Nat.zero_add]
    generalize itN (rgC B) c 0 n = s at h1 h2
    generalize itN (rgM z) m 0 n = u at h1 h2
    unfold rgC rgM
    rw [h1]
    refine ⟨?_, fun r hr => ?_⟩
    · rw [dP_n (by omega), uI_v, uI_n (by omega), uI_n (by omega), uI_n (by omega), uI_v]
    · by_cases er : r = n
      · subst er
        rw [dP_0, dP_1, dP_2, if_neg (show ¬ (-1 : Int32) = 0 by decide), uI_n (show 13 ≠ 15 by omega), uI_n (show 13 ≠ 14 by omega), uI_v, uI_n (show 14 ≠ 15 by omega), uI_v, uI_v]
        exact ⟨rfl, rfl, rfl, rfl, rfl⟩
      · obtain ⟨a1, a2, a3, a4, a5⟩ := h2 r (by omega)
        rw [dP_n (by omega), uI_n (show B + 26 + r ≠ B + 1 by omega), uI_n (show 13 ≠ 15 by omega), uI_n (show 13 ≠ 14 by omega), uI_o (by omega), uI_n (show 13 ≠ 24 by omega), uI_n (show 14 ≠ 15 by omega), uI_o (by omega), uI_n (show 14 ≠ 13 by omega), uI_n (show 14 ≠ 24 by omega), uI_o (by omega), uI_n (show 15 ≠ 14 by omega), uI_n (show 15 ≠ 13 by omega), uI_n (show 15 ≠ 24 by omega)]
        exact ⟨a1, a2, a3, a4, a5⟩
theorem rgC_n {B : Nat} {c : St} {q : Nat} (n : Nat) (hn : n ≤ 8) (h : q ≠ B + 1 ∧ (q < B + 26 ∨ B + 26 + n ≤ q)) : (itN (rgC B) c 0 n).1 q = c.1 q := by
  refine itN_inv (fun t => t.1 q = c.1 q) rfl n (fun t i hi ht => ?_)
  unfold rgC
  rw [dP_n (by omega), uI_n (by omega)]; exact ht
theorem rgM_o {z : Nat} {m : St} {q j : Nat} (n : Nat) (h : ¬ (q = 24 ∧ j = z) ∧ ¬ (13 ≤ q ∧ q < 16 ∧ 8 * z ≤ j ∧ j < 8 * z + n)) : (itN (rgM z) m 0 n).1 q j = m.1 q j := by
  refine itN_inv (fun t => t.1 q j = m.1 q j) rfl n (fun t i hi ht => ?_)
  unfold rgM
  rw [uI_o (by omega), uI_o (by omega), uI_o (by omega), uI_o (by omega)]; exact ht
theorem rgC_5 {B : Nat} {c : St} (n : Nat) : (itN (rgC B) c 0 n).1 (B + 1) 5 = c.1 (B + 1) 5 := by
  refine itN_inv (fun t => t.1 (B + 1) 5 = c.1 (B + 1) 5) rfl n (fun t i hi ht => ?_)
  unfold rgC
  rw [dP_n (by omega), uI_o (by omega)]; exact ht
theorem ma_regL {B : Nat} {c : St} : wh (fun a : (Int32 × St) => f_Ma_restart_L35 B a.1 a.2) (0, c) = some (7, itN (rgC B) c 0 7) := by
  have hw := wh_it (L := fun a : (Int32 × St) => f_Ma_restart_L35 B a.1 a.2) (f := rgC B) (s := c) (a := 0) 0 7 (fun _ => True) trivial
    (fun t i hi _ => ⟨by
      dsimp only
      rw [Nat.zero_add]
      unfold f_Ma_restart_L35 rgC
      rw [if_neg (show ¬ 7 ≤ nI i from nI_ge (b := 7) hi (by omega)), gd_nI (by omega) (by omega), nI_clamp (by omega), me_draw, Option.bind_some, nI_1]
      dsimp only
      rw [da_put]; rfl, trivial⟩)
    (fun t _ => by
      dsimp only
      unfold f_Ma_restart_L35
      rw [if_pos (by decide)])
  exact hw.1
theorem mo_regL {z : Nat} {m : St} (hz : m.1 0 28 = nI z) (h2 : z < 2) : wh (fun a : (Int32 × St) => f_Mo_start_L147 a.1 a.2) (0, m) = some (7, itN (rgM z) m 0 7) := by
  have hw := wh_it (L := fun a : (Int32 × St) => f_Mo_start_L147 a.1 a.2) (f := rgM z) (s := m) (a := 0) 0 7 (fun t => t.1 0 28 = nI z) hz
    (fun t i hi ht => ⟨by
      dsimp only
      have g1 : ∀ {β : Type} (q : Option β), gd (nI (8 * z + i)) 16 q = q := fun q => gd_nI (by omega) (by omega)
      have k1 : (nI (8 * z + i)).toNatClampNeg = 8 * z + i := nI_clamp (by omega)
      rw [Nat.zero_add]
      unfold f_Mo_start_L147 rgM
      rw [if_neg (show ¬ 7 ≤ nI i from nI_ge (b := 7) hi (by omega)), mo_draw ht h2, Option.bind_some]
      simp only [lt, uI_n (show (0 : Nat) ≠ 13 by omega), uI_n (show (0 : Nat) ≠ 14 by omega), uI_n (show (0 : Nat) ≠ 24 by omega), ht, ix8, g1, k1, nI_1], by
        unfold rgM; rw [uI_n (by omega), uI_n (by omega), uI_n (by omega), uI_n (by omega)]; exact ht⟩)
    (fun t _ => by
      dsimp only
      unfold f_Mo_start_L147
      rw [if_pos (by decide)])
  exact hw.1
