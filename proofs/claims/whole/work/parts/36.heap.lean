/-! ===== taking a block ===== -/
theorem sm_congr {f g : Nat → Nat} : ∀ {n}, (∀ j, 1 ≤ j → j ≤ n → f j = g j) → sm f n = sm g n
  | 0, _ => rfl
  | n + 1, h => by
    show sm f n + f (n + 1) = sm g n + g (n + 1)
    rw [sm_congr (fun j h1 h2 => h j h1 (by omega)), h (n + 1) (by omega) (by omega)]
theorem sm_upd {f : Nat → Nat} {j v : Nat} : ∀ {n}, 1 ≤ j → j ≤ n → sm (fun i => if i = j then v else f i) n + f j = sm f n + v
  | 0, h1, h2 => by omega
  | n + 1, h1, h2 => by
    show sm (fun i => if i = j then v else f i) n + (if n + 1 = j then v else f (n + 1)) + f j = sm f n + f (n + 1) + v
    by_cases e : n + 1 = j
    · rw [if_pos e, sm_congr (g := f) (fun i _ hi => if_neg (by omega)), ← e]; omega
    · rw [if_neg e]
      have := sm_upd (f := f) (j := j) (v := v) (n := n) h1 (by omega)
      omega
theorem sm_le1 {f : Nat → Nat} (h : ∀ j, f j ≤ 1) : ∀ n, sm f n ≤ n
  | 0 => Nat.le_refl _
  | n + 1 => by
    show sm f n + f (n + 1) ≤ n + 1
    have := sm_le1 h n; have := h (n + 1); omega
theorem sm_lt1 {f : Nat → Nat} (h : ∀ j, f j ≤ 1) {j : Nat} (h0 : f j = 0) : ∀ n, 1 ≤ j → j ≤ n → sm f n < n
  | 0, h1, h2 => by omega
  | n + 1, h1, h2 => by
    show sm f n + f (n + 1) < n + 1
    by_cases e : j = n + 1
    · rw [← e, h0]; have := sm_le1 h n; omega
    · have := sm_lt1 h h0 n h1 (by omega); have := h (n + 1); omega
theorem sm_bd {f : Nat → Nat} {b : Nat} (h : ∀ j, f j ≤ b) : ∀ n, sm f n ≤ b * n
  | 0 => Nat.le_refl _
  | n + 1 => by
    show sm f n + f (n + 1) ≤ b * (n + 1)
    have := sm_bd h n; have := h (n + 1); rw [Nat.mul_succ]; omega
/-- U free units from f on -/
def frU (W : Nat → Nat) (U f : Nat) : Prop := ∀ u, f ≤ u → u < f + U → W u = 0
theorem he_ff {B : Nat} {c : St} {W : Nat → Nat} {U : Nat} (hU : 2 ≤ U) (hU2 : U ≤ 256) (hW : ∀ u, u < 256 → c.1 (B + 12) u = nI (W u) ∧ W u ≤ 100) :
    ∀ d j r, j + d = 256 → r ≤ j → r < U → (∀ u, j - r ≤ u → u < j → W u = 0) → (∀ f, f + U ≤ j → ¬ frU W U f) → (r = j ∨ W (j - r - 1) ≠ 0) →
      (∃ q, wh (fun a : Int32 × Int32 => f_He_firstFree_L4 B (nI U) a.1 a.2 c) (nI r, nI j) = some (.inl q) ∧ ∀ f, f + U ≤ 256 → ¬ frU W U f)
      ∨ (∃ f, f + U ≤ 256 ∧ frU W U f ∧ (∀ f', f' < f → ¬ frU W U f') ∧ wh (fun a : Int32 × Int32 => f_He_firstFree_L4 B (nI U) a.1 a.2 c) (nI r, nI j) = some (.inr (nI f)))
  | 0, j, r, hj, _, _, _, h4, _ => by
    refine .inl ⟨(nI r, nI j), wh_inr ?_, fun f hf => h4 f (by omega)⟩
    dsimp only
    unfold f_He_firstFree_L4
    rw [if_pos (show 256 ≤ nI j from nI_le (a := 256) (by omega) (by omega))]
  | d + 1, j, r, hj, h1, h2, h3, h4, h5 => by
    obtain ⟨w1, w2⟩ := hW j (by omega)
    have e : f_He_firstFree_L4 B (nI U) (nI r) (nI j) c = if W j = 0 then (if r + 1 = U then some (.inr (.inr (nI (j + 1 - U)))) else some (.inl (nI (r + 1), nI (j + 1)))) else some (.inl (nI 0, nI (j + 1))) := by
      unfold f_He_firstFree_L4 f_He_firstFree_J27_1
      rw [if_neg (show ¬ 256 ≤ nI j from nI_ge (b := 256) (by omega) (by omega)), gd_nI (by omega) (by omega), nI_clamp (by omega), w1, nI_1, nI_1]
      by_cases g : W j = 0
      · rw [if_pos (show nI (W j) = 0 by rw [g]; rfl), if_pos g]
        by_cases g2 : r + 1 = U
        · rw [if_pos (by rw [g2]), if_pos g2, Int32.sub_eq_add_neg, Int32.add_assoc, Int32.add_comm (-nI U) 1, ← Int32.add_assoc, ← Int32.sub_eq_add_neg, nI_1, nI_sub (by omega)]
        · rw [if_neg (fun e => g2 ((nI_eq (by omega) (by omega)).mp e)), if_neg g2]
      · rw [if_neg (nI_ne0 (by omega) (by omega)), if_neg g, if_neg (fun e => by have := (nI_eq (a := 0) (by omega) (by omega)).mp e; omega)]
        rfl
    by_cases g : W j = 0
    · by_cases g2 : r + 1 = U
      · rw [if_pos g, if_pos g2] at e
        refine .inr ⟨j + 1 - U, by omega, fun u hu1 hu2 => ?_, fun f' hf' => h4 f' (by omega), ?_⟩
        · by_cases eu : u = j
          · rw [eu]; exact g
          · exact h3 u (by omega) (by omega)
        · exact wh_inr (by dsimp only; exact e)
      · rw [if_pos g, if_neg g2] at e
        rw [wh_inl (by dsimp only; exact e)]
        refine he_ff hU hU2 hW d (j + 1) (r + 1) (by omega) (by omega) (by omega) (fun u hu1 hu2 => ?_) (fun f hf hfr => ?_) ?_
        · by_cases eu : u = j
          · rw [eu]; exact g
          · exact h3 u (by omega) (by omega)
        · by_cases ef : f + U ≤ j
          · exact h4 f ef hfr
          · rcases h5 with h5 | h5
            · omega
            · exact h5 (hfr (j - r - 1) (by omega) (by omega))
        · rcases h5 with h5 | h5
          · exact .inl (by omega)
          · exact .inr (by rw [show j + 1 - (r + 1) - 1 = j - r - 1 by omega]; exact h5)
    · rw [if_neg g] at e
      rw [wh_inl (by dsimp only; exact e)]
      refine he_ff hU hU2 hW d (j + 1) 0 (by omega) (by omega) (by omega) (fun u hu1 hu2 => by omega) (fun f hf hfr => ?_) (.inr (by rw [show j + 1 - 0 - 1 = j by omega]; exact g))
      by_cases ef : f + U ≤ j
      · exact h4 f ef hfr
      · exact g (hfr j (by omega) (by omega))
theorem he_firstFree {B : Nat} {c : St} {W : Nat → Nat} {U : Nat} (hU : 2 ≤ U) (hU2 : U ≤ 256) (hW : ∀ u, u < 256 → c.1 (B + 12) u = nI (W u) ∧ W u ≤ 100) :
    ((∀ f, f + U ≤ 256 → ¬ frU W U f) ∧ f_He_firstFree B (nI U) c = some (-1)) ∨ (∃ f, f + U ≤ 256 ∧ frU W U f ∧ (∀ f', f' < f → ¬ frU W U f') ∧ f_He_firstFree B (nI U) c = some (nI f)) := by
  unfold f_He_firstFree
  have h := he_ff (B := B) (c := c) hU hU2 hW 256 0 0 (by omega) (by omega) (by omega) (fun u h1 h2 => by omega) (fun f hf => by omega) (.inl rfl)
  rw [nI_0] at h
  rcases h with ⟨q, h1, h2⟩ | ⟨f, h1, h2, h3, h4⟩
  · exact .inl ⟨h2, by rw [h1]; rfl⟩
  · exact .inr ⟨f, h1, h2, h3, by rw [h4]; rfl⟩
/-- does block j leave the U units from f on alone? -/
def ft (F S C : Nat → Nat) (U f j : Nat) : Prop := C j = 0 ∨ f + U ≤ F j ∨ F j + (2 + (S j + 7) / 8) ≤ f
theorem ft_fr {z B : Nat} {c m : St} {k qs qe : Nat} {F S C W Q : Nat → Nat} (hH : HX z B c m k qs qe F S C W Q) {U f : Nat} (hU : 2 ≤ U) (hf : f + U ≤ 256) : frU W U f ↔ ∀ j, 1 ≤ j → j ≤ k → ft F S C U f j := by
  constructor
  · intro h j h1 hj
    unfold ft
    by_cases hC : C j = 0
    · exact .inl hC
    · right
      apply Classical.byContradiction
      intro hn
      have hsp := hH.2.2.2.2.1 j h1 hj hC (max f (F j)) (by omega) (by omega)
      have := h (max f (F j)) (by omega) (by omega)
      omega
  · intro h u hu1 hu2
    apply Classical.byContradiction
    intro hn
    obtain ⟨_, w2, w3⟩ := hH.2.2.2.1 u (by omega)
    obtain ⟨d1, d2, d3⟩ := w3 hn
    rcases h (W u) (by omega) w2 with h | h | h
    · exact d1 h
    · omega
    · omega
theorem mo_fits {z B : Nat} {c0 m0 c m : St} (h : RB z B c0 m0 c m) {k qs qe : Nat} {F S C W Q : Nat → Nat} (hH : HX z B c m k qs qe F S C W Q) {sz f : Nat} (hs : sz ≤ 512) (hf : f + (2 + (sz + 7) / 8) ≤ 256) :
    ∀ d j, j + d = k + 1 → 1 ≤ j → (∃ q, wh (fun a : Int32 × Int32 => f_Mo_blockOf_L59_2 (nI sz) (nI (1032 + 8 * f)) a.1 a.2 m) (1, nI (101 * z + j)) = some (0, q) ∧ ¬ ∀ i, j ≤ i → i ≤ k → ft F S C (2 + (sz + 7) / 8) f i) ∨ (∃ q, wh (fun a : Int32 × Int32 => f_Mo_blockOf_L59_2 (nI sz) (nI (1032 + 8 * f)) a.1 a.2 m) (1, nI (101 * z + j)) = some (1, q) ∧ ∀ i, j ≤ i → i ≤ k → ft F S C (2 + (sz + 7) / 8) f i)
  | 0, j, hj, h1 => by
    have hz := RB_zb h
    have hk := hH.2.1
    have hk34 : m.1 34 z = nI k := (RB_eq h (show phi z 6 5 = some (34, z) from rfl)).symm.trans hH.1
    refine .inr ⟨nI (101 * z + j), wh_inr ?_, fun i hi1 hi2 => by omega⟩
    dsimp only
    unfold f_Mo_blockOf_L59_2
    rw [if_neg (by decide), RB_z h, gd_nI hz (by omega), nI_clamp (by omega), hk34, ix101, if_pos (nI_lt (by omega) (by omega))]
  | d + 1, j, hj, h1 => by
    have hz := RB_zb h
    have hk := hH.2.1
    have hk34 : m.1 34 z = nI k := (RB_eq h (show phi z 6 5 = some (34, z) from rfl)).symm.trans hH.1
    obtain ⟨e1, e2, e3, e4, e5, e6⟩ := HX_cells h hH h1 (show j ≤ k by omega)
    have a1 : nI (1032 + 8 * F j) - 8 = nI (1024 + 8 * F j) := by rw [show (8 : Int32) = nI 8 from rfl, nI_sub (by omega)]; congr 1; omega
    have a2 : f_Mo_up8 (nI (1032 + 8 * F j) + nI (S j)) + 8 = nI (1024 + 8 * (F j + (2 + (S j + 7) / 8))) := by
      rw [nI_add, up8_n (by omega), show (8 : Int32) = nI 8 from rfl, nI_add]; congr 1; omega
    have a3 : f_Mo_up8 (nI (1032 + 8 * f) + nI sz) + 8 = nI (1024 + 8 * (f + (2 + (sz + 7) / 8))) := by
      rw [nI_add, up8_n (by omega), show (8 : Int32) = nI 8 from rfl, nI_add]; congr 1; omega
    have a4 : nI (1032 + 8 * f) - 8 = nI (1024 + 8 * f) := by rw [show (8 : Int32) = nI 8 from rfl, nI_sub (by omega)]; congr 1; omega
    have a5 : (nI (C j) = 0) ↔ C j = 0 := by rw [show (0 : Int32) = nI 0 from rfl, nI_eq (by omega) (by omega)]
    have st : (ft F S C (2 + (sz + 7) / 8) f j → f_Mo_blockOf_L59_2 (nI sz) (nI (1032 + 8 * f)) 1 (nI (101 * z + j)) m = some (.inl (1, nI (101 * z + (j + 1))))) ∧ (¬ ft F S C (2 + (sz + 7) / 8) f j → f_Mo_blockOf_L59_2 (nI sz) (nI (1032 + 8 * f)) 1 (nI (101 * z + j)) m = some (.inl (0, nI (101 * z + (j + 1))))) := by
      unfold f_Mo_blockOf_L59_2 f_Mo_blockOf_J145_2 f_Mo_blockOf_J150_2 ft
      rw [if_neg (by decide), RB_z h, gd_nI hz (by omega), nI_clamp (show z < 2 ^ 31 by omega), hk34, ix101, if_neg (nI_nlt (by omega) (by omega)), nI_1]
      simp only [gd_nI (show 101 * z + j < 202 by omega) (show 202 < 2 ^ 31 by omega), nI_clamp (show 101 * z + j < 2 ^ 31 by omega), e1, e2, e3, a1, a2, a3, a4, a5, nI_leI (show 1024 + 8 * (f + (2 + (sz + 7) / 8)) < 2 ^ 31 by omega) (show 1024 + 8 * F j < 2 ^ 31 by omega), nI_ltI (show 1024 + 8 * f < 2 ^ 31 by omega) (show 1024 + 8 * (F j + (2 + (S j + 7) / 8)) < 2 ^ 31 by omega), Nat.add_assoc]
      by_cases g1 : C j = 0
      · simp [g1]
      · by_cases g2 : f + (2 + (sz + 7) / 8) ≤ F j
        · rw [if_neg g1, if_pos (by omega)]; exact ⟨fun _ => rfl, fun hn => absurd (.inr (.inl g2)) hn⟩
        · by_cases g3 : F j + (2 + (S j + 7) / 8) ≤ f
          · rw [if_neg g1, if_neg (by omega), if_neg (by omega)]; exact ⟨fun _ => rfl, fun hn => absurd (.inr (.inr g3)) hn⟩
          · rw [if_neg g1, if_neg (by omega), if_pos (by omega)]; exact ⟨fun hy => by omega, fun _ => rfl⟩
    by_cases hft : ft F S C (2 + (sz + 7) / 8) f j
    · have e := st.1 hft
      rw [wh_inl (by dsimp only; exact e)]
      rcases mo_fits h hH hs hf d (j + 1) (by omega) (by omega) with ⟨q, q1, q2⟩ | ⟨q, q1, q2⟩
      · exact .inl ⟨q, q1, fun hall => q2 (fun i hi1 hi2 => hall i (by omega) hi2)⟩
      · refine .inr ⟨q, q1, fun i hi1 hi2 => ?_⟩
        by_cases ei : i = j
        · rw [ei]; exact hft
        · exact q2 i (by omega) hi2
    · have e := st.2 hft
      rw [wh_inl (by dsimp only; exact e)]
      refine .inl ⟨nI (101 * z + (j + 1)), wh_inr (by dsimp only; unfold f_Mo_blockOf_L59_2; rw [if_pos rfl]), fun hall => hft (hall j (Nat.le_refl _) (by omega))⟩
theorem wh_gen {α β : Type} {L : α → Option (α ⊕ β)} {g : Nat → α} : ∀ n, (∀ i, i < n → L (g i) = some (.inl (g (i + 1)))) → wh L (g 0) = wh L (g n)
  | 0, _ => rfl
  | n + 1, h => by rw [wh_gen n (fun i hi => h i (by omega)), wh_inl (h n (by omega))]
/-- the cells of a new block -/
def nbC (B : Nat) (c : St) (k : Nat) (a s i : Int32) : St := uI (uI (uI (uI (uI (uI c (B + 6) 5 (nI k)) (B + 7) k a) (B + 8) k s) (B + 9) k 2) (B + 10) k i) (B + 11) k (-1)
def nbM (z : Nat) (m : St) (k : Nat) (a s i : Int32) : St := uI (uI (uI (uI (uI (uI m 34 z (nI k)) 28 (101 * z + k) a) 29 (101 * z + k) s) 30 (101 * z + k) 2) 31 (101 * z + k) i) 32 (101 * z + k) (-1)
theorem RB_nb {z B : Nat} {c0 m0 c m : St} (h : RB z B c0 m0 c m) {k : Nat} (hk : k ≤ 100) (a s i : Int32) : RB z B c0 m0 (nbC B c k a s i) (nbM z m k a s i) :=
  RB_setB (RB_setB (RB_setB (RB_setB (RB_setB (RB_set (d := 6) h (show phi z 6 5 = some (34, z) from rfl) (by omega) (by unfold own; omega)) (d := 7) (by omega) (by omega) (by omega)) (d := 8) (by omega) (by omega) (by omega)) (d := 9) (by omega) (by omega) (by omega)) (d := 10) (by omega) (by omega) (by omega)) (d := 11) (by omega) (by omega) (by omega)
theorem nbC_n {B : Nat} {c : St} {k q : Nat} {a s i : Int32} (h : q < B + 6 ∨ B + 11 < q) : (nbC B c k a s i).1 q = c.1 q := by
  unfold nbC; rw [uI_n (by omega), uI_n (by omega), uI_n (by omega), uI_n (by omega), uI_n (by omega), uI_n (by omega)]
theorem nbM_n {z : Nat} {m : St} {k q : Nat} {a s i : Int32} (h : q < 28 ∨ q = 33 ∨ 34 < q) : (nbM z m k a s i).1 q = m.1 q := by
  unfold nbM; rw [uI_n (by omega), uI_n (by omega), uI_n (by omega), uI_n (by omega), uI_n (by omega), uI_n (by omega)]
/-- units owned -/
def owC (B : Nat) (w : Int32) (t : St) (x : Nat) : St := uI t (B + 12) x w
theorem ow_at {B : Nat} {w : Int32} {c : St} {f q j : Nat} : ∀ n, (itN (owC B w) c f n).1 q j = if q = B + 12 ∧ f ≤ j ∧ j < f + n then w else c.1 q j
  | 0 => by rw [if_neg (by omega)]; rfl
  | n + 1 => by
    show (uI (itN (owC B w) c f n) (B + 12) (f + n) w).1 q j = _
    rw [uI_g2, ow_at n]
    by_cases e : q = B + 12 ∧ j = f + n
    · rw [if_pos e, if_pos (by omega)]
    · rw [if_neg e]
      by_cases e2 : q = B + 12 ∧ f ≤ j ∧ j < f + n
      · rw [if_pos e2, if_pos (by omega)]
      · rw [if_neg e2, if_neg (by omega)]
theorem RB_ow {z B : Nat} {c0 m0 c m : St} (h : RB z B c0 m0 c m) {w : Int32} {f : Nat} (n : Nat) : RB z B c0 m0 (itN (owC B w) c f n) m :=
  itN_inv (fun t => RB z B c0 m0 t m) h n (fun t i _ ht => RB_c ht (d := 12) (by simp [phi]) (by omega))
theorem he_own {B : Nat} {c : St} {j f s : Nat} {w : Int32} (hj : j ≤ 100) (h7 : c.1 (B + 7) j = nI (1032 + 8 * f)) (h8 : c.1 (B + 8) j = nI s) (hs : s ≤ 512) (hf : f + (2 + (s + 7) / 8) ≤ 256) : f_He_own B (nI j) w c = some (itN (owC B w) c f (2 + (s + 7) / 8)) := by
  have e1 : ((nI (1032 + 8 * f) - 1024) / 8) - 1 = nI f := by
    rw [show (1024 : Int32) = nI 1024 from rfl, nI_sub (by omega), div8_n (by omega), show (1 : Int32) = nI 1 from rfl, nI_sub (by omega)]; congr 1; omega
  have hw := wh_it (L := fun q : Int32 × St => f_He_own_L30 B w (nI f) (nI (2 + (s + 7) / 8)) q.1 q.2) (f := owC B w) (s := c) (a := f) 0 (2 + (s + 7) / 8) (fun _ => True) trivial
    (fun t i hi _ => ⟨by
      dsimp only
      unfold f_He_own_L30 owC
      rw [Nat.zero_add, if_neg (nI_ge hi (by omega)), nI_add, gd_nI (by omega) (by omega), nI_clamp (by omega), nI_1]; rfl, trivial⟩)
    (fun t _ => by
      dsimp only
      unfold f_He_own_L30
      rw [Nat.zero_add, if_pos (nI_le (Nat.le_refl _) (by omega))])
  unfold f_He_own
  rw [gd_nI (by omega) (by omega), nI_clamp (by omega), h7, h8, e1, units_n hs, lt_eq, gd_nI (by omega) (by omega), lt_eq, ← nI_0, hw.1]
  rfl
/-! the new block, on both sides -/
theorem SI_heap {z B n i N : Nat} {t : Int32} {c0 m0 c m c' m' : St} (h : SI z B n i N t c0 m0 c m) (hR : RB z B c0 m0 c' m') (hc : ∀ k, k < B + 6 ∨ B + 14 ≤ k → c'.1 k = c.1 k) (h0 : m'.1 0 = m.1 0) (h22 : m'.1 22 = m.1 22) (hH : HI z B c' m') : SI z B n i N t c0 m0 c' m' := by
  obtain ⟨h1, h2, h3, h4, h5, h6, h7⟩ := h
  refine ⟨hR, LG_of h2 (Nat.le_refl _) (hc _ (by omega)) (by rw [h0]), IM_of h3 (hc _ (by omega)) (hc _ (by omega)) (hc _ (by omega)), IS_of h4 (by rw [hc _ (by omega)]) (hc _ (by omega)) (hc _ (by omega)), IR_of h5 (fun k _ _ => hc k (by omega)), hH, IX_of h7 (Nat.le_refl _) (fun j _ _ => by rw [hc B (by omega)]) ?_ (hc _ (by omega)) (by rw [h0]) (by rw [h22])⟩
  rw [hc B (by omega)]; exact h7.2.2.2.2.2.1
theorem HX_new {z B : Nat} {c m : St} {k qs qe : Nat} {F S C W Q : Nat → Nat} (hH : HX z B c m k qs qe F S C W Q) (hk : k < 100) {s f : Nat} {i : Int32} (hs : s ≤ 512) (hf : f + (2 + (s + 7) / 8) ≤ 256) (hfr : frU W (2 + (s + 7) / 8) f) :
    HX z B (itN (owC B (nI (k + 1))) (nbC B c (k + 1) (nI (1032 + 8 * f)) (nI s) i) f (2 + (s + 7) / 8)) (nbM z m (k + 1) (nI (1032 + 8 * f)) (nI s) i) (k + 1) qs qe
      (fun j => if j = k + 1 then f else F j) (fun j => if j = k + 1 then s else S j) (fun j => if j = k + 1 then 2 else C j) (fun u => if f ≤ u ∧ u < f + (2 + (s + 7) / 8) then k + 1 else W u) Q := by
  obtain ⟨g1, g2, g3, g4, g5, g6, g7, g8, g9, g10, g11, g12, g13⟩ := hH
  have hn : ∀ q j, q ≠ B + 12 → (itN (owC B (nI (k + 1))) (nbC B c (k + 1) (nI (1032 + 8 * f)) (nI s) i) f (2 + (s + 7) / 8)).1 q j = (nbC B c (k + 1) (nI (1032 + 8 * f)) (nI s) i).1 q j := fun q j hq => by rw [ow_at, if_neg (fun h => hq h.1)]
  unfold HX
  refine ⟨?_, by omega, fun j h1 hj => ?_, fun u hu => ?_, fun j h1 hj hC u hu1 hu2 => ?_, ?_, ?_, g8, ?_, ?_, ?_, fun j hj1 hj2 => ?_, fun j h1 hj hC => ?_⟩
  · rw [hn _ _ (by omega)]; unfold nbC; rw [uI_o (by omega), uI_o (by omega), uI_o (by omega), uI_o (by omega), uI_o (by omega), uI_v]
  · rw [hn _ _ (by omega), hn _ _ (by omega), hn _ _ (by omega)]
    unfold nbC
    by_cases e : j = k + 1
    · subst e
      simp only [if_true]
      refine ⟨?_, ?_, ?_, hs, hf, by omega⟩
      · rw [uI_n (by omega), uI_n (by omega), uI_n (by omega), uI_n (by omega), uI_v]
      · rw [uI_n (by omega), uI_n (by omega), uI_n (by omega), uI_v]
      · rw [uI_n (by omega), uI_n (by omega), uI_v]; rfl
    · simp only [if_neg e]
      rw [uI_o (by omega), uI_o (by omega), uI_o (by omega), uI_o (by omega), uI_o (by omega), uI_o (by omega), uI_o (by omega), uI_o (by omega), uI_o (by omega), uI_o (by omega), uI_o (by omega), uI_o (by omega), uI_o (by omega), uI_o (by omega), uI_o (by omega), uI_o (by omega), uI_o (by omega), uI_o (by omega)]
      exact g3 j h1 (by omega)
  · obtain ⟨w1, w2, w3⟩ := g4 u hu
    rw [ow_at]
    by_cases e : f ≤ u ∧ u < f + (2 + (s + 7) / 8)
    · rw [if_pos (show B + 12 = B + 12 ∧ f ≤ u ∧ u < f + (2 + (s + 7) / 8) from ⟨rfl, e⟩)]
      dsimp only
      rw [if_pos e]
      simp only [if_true]
      exact ⟨trivial, Nat.le_refl _, fun _ => ⟨by omega, e.1, e.2⟩⟩
    · rw [if_neg (show ¬ (B + 12 = B + 12 ∧ f ≤ u ∧ u < f + (2 + (s + 7) / 8)) from fun h => e h.2), nbC_n (by omega)]
      dsimp only
      rw [if_neg e]
      simp only [if_neg (show ¬ W u = k + 1 by omega)]
      exact ⟨w1, by omega, w3⟩
  · dsimp only at hu1 hu2 hC ⊢
    by_cases e : j = k + 1
    · subst e
      rw [if_pos rfl] at hu1 hu2; rw [if_pos rfl] at hu2
      rw [if_pos ⟨hu1, hu2⟩]
    · rw [if_neg e] at hu1 hu2 hC; rw [if_neg e] at hu2
      have hw := g5 j h1 (by omega) hC u hu1 hu2
      rw [if_neg (fun h => by have := hfr u h.1 h.2; omega)]
      exact hw
  · rw [hn _ _ (by omega)]; unfold nbC; rw [uI_o (by omega), uI_o (by omega), uI_o (by omega), uI_o (by omega), uI_o (by omega), uI_o (by omega)]; exact g6
  · rw [hn _ _ (by omega)]; unfold nbC; rw [uI_o (by omega), uI_o (by omega), uI_o (by omega), uI_o (by omega), uI_o (by omega), uI_o (by omega)]; exact g7
  · show qe = sm _ k + (if (if k + 1 = k + 1 then 2 else C (k + 1)) = 2 then 0 else 1)
    rw [if_pos rfl, if_pos rfl, Nat.add_zero, g9]
    exact sm_congr (fun j h1 hj => by simp only [if_neg (show ¬ j = k + 1 by omega)])
  · rw [nbM_n (by omega)]; exact g10
  · rw [hn _ _ (by omega)]; unfold nbC; rw [uI_o (by omega), uI_o (by omega), uI_o (by omega), uI_o (by omega), uI_o (by omega), uI_o (by omega), g11]
    congr 1
    show _ = sm _ k + (if (if k + 1 = k + 1 then 2 else C (k + 1)) = 1 then (if k + 1 = k + 1 then s else S (k + 1)) else 0)
    rw [if_pos rfl, if_neg (by omega), Nat.add_zero]
    exact sm_congr (fun j h1 hj => by simp only [if_neg (show ¬ j = k + 1 by omega)])
  · obtain ⟨q1, q2, q3, q4, q5⟩ := g12 j hj1 hj2
    rw [hn _ _ (by omega), nbC_n (by omega), nbM_n (by omega)]
    refine ⟨q1, q2, by omega, ?_, q5⟩
    dsimp only; rw [if_neg (by omega)]; exact q4
  · dsimp only at hC
    by_cases e : j = k + 1
    · rw [if_pos e] at hC; omega
    · rw [if_neg e] at hC; exact g13 j h1 (by omega) hC
