/-! ===== copying ===== -/
def cvC (B : Nat) (c : St) (a1 a2 : Nat) (t : St) (x : Nat) : St := uI (uI (uI t (B + 2) x (c.1 (B + 2) (a1 + (x - a2)))) (B + 3) x (c.1 (B + 3) (a1 + (x - a2)))) (B + 4) x (c.1 (B + 4) (a1 + (x - a2)))
def cvM (B z : Nat) (c : St) (a1 a2 : Nat) (t : St) (x : Nat) : St := uI (uI (uI t 16 (4096 * z + x) (c.1 (B + 2) (a1 + (x - a2)))) 17 (4096 * z + x) (c.1 (B + 3) (a1 + (x - a2)))) 18 (4096 * z + x) (c.1 (B + 4) (a1 + (x - a2)))
theorem cvC_g {B : Nat} {c t : St} {a1 a2 x q j : Nat} : (cvC B c a1 a2 t x).1 q j = if q = B + 4 ∧ j = x then c.1 (B + 4) (a1 + (x - a2)) else if q = B + 3 ∧ j = x then c.1 (B + 3) (a1 + (x - a2)) else if q = B + 2 ∧ j = x then c.1 (B + 2) (a1 + (x - a2)) else t.1 q j := by
  unfold cvC
  rw [uI_g2, uI_g2, uI_g2]
theorem cv_at {B : Nat} {c : St} {a1 a2 q j : Nat} : ∀ k, (itN (cvC B c a1 a2) c a2 k).1 q j = if (q = B + 2 ∨ q = B + 3 ∨ q = B + 4) ∧ a2 ≤ j ∧ j < a2 + k then c.1 q (a1 + (j - a2)) else c.1 q j
  | 0 => by rw [if_neg (by omega)]; rfl
  | k + 1 => by
    show (cvC B c a1 a2 (itN (cvC B c a1 a2) c a2 k) (a2 + k)).1 q j = _
    have ih := cv_at (B := B) (c := c) (a1 := a1) (a2 := a2) (q := q) (j := j) k
    rw [cvC_g, ih]
    by_cases hj : j = a2 + k
    · subst hj
      by_cases h4 : q = B + 4
      · subst h4; rw [if_pos ⟨rfl, rfl⟩, if_pos ⟨by omega, by omega, by omega⟩]
      · by_cases h3 : q = B + 3
        · subst h3; rw [if_neg (by omega), if_pos ⟨rfl, rfl⟩, if_pos ⟨by omega, by omega, by omega⟩]
        · by_cases h2 : q = B + 2
          · subst h2; rw [if_neg (by omega), if_neg (by omega), if_pos ⟨rfl, rfl⟩, if_pos ⟨by omega, by omega, by omega⟩]
          · rw [if_neg (by omega), if_neg (by omega), if_neg (by omega), if_neg (by omega), if_neg (by omega)]
    · rw [if_neg (by omega), if_neg (by omega), if_neg (by omega)]
      by_cases hin : (q = B + 2 ∨ q = B + 3 ∨ q = B + 4) ∧ a2 ≤ j ∧ j < a2 + k
      · rw [if_pos hin, if_pos ⟨hin.1, hin.2.1, by omega⟩]
      · rw [if_neg hin, if_neg (by omega)]
theorem cv_2 {B : Nat} {c : St} {a1 a2 : Nat} : ∀ k, (itN (cvC B c a1 a2) c a2 k).2 = c.2
  | 0 => rfl
  | k + 1 => cv_2 k
theorem uC_g {s : St} {k k' : Nat} {f : Nat → Int32} : (uC s k f).1 k' = if k' = k then f else s.1 k' := rfl
theorem holds_n {a k : Nat} (hk : k ≤ 4096) (ha : a + k ≤ 4096) : ¬ f_Me_holds (nI a) (nI k) = 0 := by
  unfold f_Me_holds
  by_cases h0 : k = 0
  · subst h0; rw [if_pos (show nI 0 = 0 from rfl)]; decide
  · rw [if_neg (nI_ne0 (by omega) (by omega)), if_neg (nI_pos (by omega)), if_neg (nI_nle (by omega) (by omega)), if_neg (show ¬ 4096 < nI k from nI_nlt (a := 4096) (by omega) (by omega)), show (4096 : Int32) = nI 4096 from rfl, nI_sub (by omega), if_neg (nI_nlt (by omega) (by omega))]
    decide
theorem gcp_n {β : Type} {a1 a2 k : Nat} {o : Option β} (h1 : a1 + k ≤ 4096) (h2 : a2 + k ≤ 4096) : gcp (nI a1) (nI a2) (nI k) 4096 o = o := by
  unfold gcp
  rw [nI_clamp (by omega), nI_clamp (by omega), nI_clamp (by omega), if_neg]
  rintro (h | h | h | h | h)
  · exact nI_pos (by omega) h
  · exact nI_pos (by omega) h
  · exact nI_pos (by omega) h
  · omega
  · omega
theorem me_move {B : Nat} {c : St} {x1 x2 : Int32} {a1 a2 k : Nat} (hx1 : k = 0 ∨ x1 = nI a1) (hx2 : k = 0 ∨ x2 = nI a2) (h1 : a1 + k ≤ 4096) (h2 : a2 + k ≤ 4096) : f_Me_move B x1 x2 (nI k) c = some (itN (cvC B c a1 a2) c a2 k) := by
  unfold f_Me_move
  by_cases h0 : k = 0
  · subst h0; rw [if_pos (by decide)]; rfl
  · have e1 := hx1.resolve_left h0
    have e2 := hx2.resolve_left h0
    subst e1 e2
    rw [if_neg (nI_nle (by omega) (by omega)), if_neg (holds_n (by omega) h1), if_neg (holds_n (by omega) h2), gcp_n h1 h2, lt_eq, gcp_n h1 h2, lt_eq, gcp_n h1 h2, lt_eq, nI_clamp (by omega), nI_clamp (by omega), nI_clamp (by omega)]
    congr 1
    refine St_ext (fun q j => ?_) (cv_2 (B := B) (c := c) (a1 := a1) (a2 := a2) k).symm
    rw [cv_at, uC_g, uC_g, uC_g, uC_g, uC_g]
    by_cases h4 : q = B + 4
    · subst h4
      rw [if_pos rfl, if_neg (show ¬ B + 4 = B + 3 by omega), if_neg (show ¬ B + 4 = B + 2 by omega)]
      unfold va_cpy
      by_cases hj : a2 ≤ j ∧ j < a2 + k
      · rw [if_pos hj, if_pos ⟨by omega, hj⟩]
      · rw [if_neg hj, if_neg (fun h => hj h.2)]
    · rw [if_neg h4]
      by_cases h3 : q = B + 3
      · subst h3
        rw [if_pos rfl, if_neg (show ¬ B + 3 = B + 2 by omega)]
        unfold va_cpy
        by_cases hj : a2 ≤ j ∧ j < a2 + k
        · rw [if_pos hj, if_pos ⟨by omega, hj⟩]
        · rw [if_neg hj, if_neg (fun h => hj h.2)]
      · rw [if_neg h3]
        by_cases h2 : q = B + 2
        · subst h2
          rw [uC_g, if_pos rfl]
          unfold va_cpy
          by_cases hj : a2 ≤ j ∧ j < a2 + k
          · rw [if_pos hj, if_pos ⟨by omega, hj⟩]
          · rw [if_neg hj, if_neg (fun h => hj h.2)]
        · rw [uC_g, if_neg h2, if_neg (by omega)]
theorem SI_cv {z B n i N : Nat} {t : Int32} {c0 m0 c s u : St} (hc : IM B c) (h : SI z B n i N t c0 m0 s u) {a1 a2 x : Nat} (hx : x < 4096) (hy : a1 + (x - a2) < 4096) : SI z B n i N t c0 m0 (cvC B c a1 a2 s x) (cvM B z c a1 a2 u x) := by
  refine SI_MT h (RB_setM (RB_setM (RB_setM h.1 (d := 2) (by omega) (by omega) hx) (d := 3) (by omega) (by omega) hx) (d := 4) (by omega) (by omega) hx) ?_ (IS_of h.2.2.2.1 ?_ ?_ ?_) (MT_c (MT_c (MT_c (MT_m (MT_m (MT_m MT_rf (by omega)) (by omega)) (by omega)) (d := 2) (by omega) (by omega) (by omega)) (d := 3) (by omega) (by omega) (by omega)) (d := 4) (by omega) (by omega) (by omega))
  · intro y hy2
    obtain ⟨m1, m2⟩ := h.2.2.1 y hy2
    obtain ⟨n1, n2⟩ := hc _ hy
    rw [cvC_g, cvC_g, cvC_g]
    by_cases e : y = x
    · subst e
      rw [if_neg (by omega), if_neg (by omega), if_pos ⟨rfl, rfl⟩, if_neg (show ¬ (B + 3 = B + 4 ∧ y = y) by omega), if_pos ⟨rfl, rfl⟩, if_pos ⟨rfl, rfl⟩]; exact ⟨n1, n2⟩
    · simp only [e, and_false, if_false]; exact ⟨m1, m2⟩
  · unfold cvC; rw [uI_n (by omega), uI_n (by omega), uI_n (by omega)]
  · unfold cvC; rw [uI_n (by omega), uI_n (by omega), uI_n (by omega)]
  · unfold cvC; rw [uI_n (by omega), uI_n (by omega), uI_n (by omega)]
theorem phi_buf {z k i : Nat} (hk : 45 ≤ k ∧ k < 48) : phi z (psi z k i).1 (psi z k i).2 ≠ some (k, i) := by
  have hc : k = 45 ∨ k = 46 ∨ k = 47 := by omega
  rcases hc with rfl | rfl | rfl
  · simp [psi, phi]
  · simp [psi, phi]; omega
  · simp [psi, phi]; omega
theorem SI_buf {z B n i N : Nat} {t : Int32} {c0 m0 c m : St} (h : SI z B n i N t c0 m0 c m) {k j : Nat} {v : Int32} (hk : 45 ≤ k ∧ k < 48) : SI z B n i N t c0 m0 c (uI m k j v) := by
  have hR : RB z B c0 m0 c (uI m k j v) := RB_m h.1 (phi_buf hk) (by unfold own; omega)
  exact SI_Bof h (Nat.le_refl _) hR (fun _ _ _ => rfl) (by rw [uI_n (by omega)]) (uI_n (by omega)) (uI_n (by omega)) (IX_of h.2.2.2.2.2.2 (Nat.le_refl _) (fun _ _ _ => rfl) h.2.2.2.2.2.2.2.2.2.2.2.1 rfl (by rw [uI_n (by omega)]) (by rw [uI_n (by omega)]))
def bfM (B : Nat) (c : St) (a1 : Nat) (t : St) (x : Nat) : St := uI (uI (uI t 45 x (c.1 (B + 2) (a1 + x))) 46 x (c.1 (B + 3) (a1 + x))) 47 x (c.1 (B + 4) (a1 + x))
theorem bf_n {B : Nat} {c t : St} {a1 x k : Nat} (h : k < 45 ∨ 47 < k) : (bfM B c a1 t x).1 k = t.1 k := by
  unfold bfM; rw [uI_n (by omega), uI_n (by omega), uI_n (by omega)]
theorem bfM_g {B : Nat} {c t : St} {a1 x q j : Nat} : (bfM B c a1 t x).1 q j = if q = 47 ∧ j = x then c.1 (B + 4) (a1 + x) else if q = 46 ∧ j = x then c.1 (B + 3) (a1 + x) else if q = 45 ∧ j = x then c.1 (B + 2) (a1 + x) else t.1 q j := by
  unfold bfM
  rw [uI_g2, uI_g2, uI_g2]
theorem bf_at {B : Nat} {c m : St} {a1 j : Nat} : ∀ k, j < k → (itN (bfM B c a1) m 0 k).1 45 j = c.1 (B + 2) (a1 + j) ∧ (itN (bfM B c a1) m 0 k).1 46 j = c.1 (B + 3) (a1 + j) ∧ (itN (bfM B c a1) m 0 k).1 47 j = c.1 (B + 4) (a1 + j)
  | 0, h => by omega
  | k + 1, h => by
    show (bfM B c a1 (itN (bfM B c a1) m 0 k) (0 + k)).1 45 j = _ ∧ (bfM B c a1 (itN (bfM B c a1) m 0 k) (0 + k)).1 46 j = _ ∧ (bfM B c a1 (itN (bfM B c a1) m 0 k) (0 + k)).1 47 j = _
    rw [Nat.zero_add]
    rw [bfM_g, bfM_g, bfM_g]
    by_cases e : j = k
    · subst e; simp
    · simp only [e, and_false, if_false]
      exact bf_at k (by omega)
theorem mo_move {z B n i N : Nat} {t : Int32} {c0 m0 c m : St} (h : SI z B n i N t c0 m0 c m) {x1 x2 : Int32} {a1 a2 k : Nat} (hk : k ≤ 256) (hx1 : k = 0 ∨ x1 = nI a1) (hx2 : k = 0 ∨ x2 = nI a2) (h1 : a1 + k ≤ 4096) (h2 : a2 + k ≤ 4096) :
    f_Mo_move x1 x2 (nI k) m = some (itN (cvM B z c a1 a2) (itN (bfM B c a1) m 0 k) a2 k) ∧ SI z B n i N t c0 m0 c (itN (bfM B c a1) m 0 k) := by
  have hz := RB_zb h.1
  have hI := h.2.2.1
  have hw := wh_it (L := fun q : Int32 × St => f_Mo_move_L3 x1 x2 (nI k) q.1 q.2) (f := bfM B c a1) (s := m) (a := 0) 0 k (fun t' => (∀ k, k < 45 → t'.1 k = m.1 k) ∧ SI z B n i N t c0 m0 c t') ⟨fun _ _ => rfl, h⟩
    (fun t' i' hi ht => ⟨by
      dsimp only
      obtain ⟨r0, r1, r2, _⟩ := RB_mem h.1 (show a1 + i' < 4096 by omega)
      have n0 := (hI (a1 + i') (by omega)).2
      have hz2 : t'.1 0 28 = nI z := by rw [ht.1 0 (by omega)]; exact RB_z h.1
      unfold f_Mo_move_L3 f_Mo_move_J79_1 bfM
      rw [Nat.zero_add, if_neg (nI_ge hi (by omega)), hz2, hx1.resolve_left (by omega), ix4096, nI_add, Nat.add_assoc]
      simp only [lt, gd_nI (show 4096 * z + (a1 + i') < 8192 by omega) (show 8192 < 2 ^ 31 by omega), nI_clamp (show 4096 * z + (a1 + i') < 2 ^ 31 by omega), gd_nI (show i' < 256 by omega) (show 256 < 2 ^ 31 by omega), nI_clamp (show i' < 2 ^ 31 by omega)]
      rw [uI_n (show 17 ≠ 45 by omega), uI_n (show 17 ≠ 46 by omega), uI_n (show 17 ≠ 45 by omega), uI_n (show 18 ≠ 46 by omega), uI_n (show 18 ≠ 45 by omega), ht.1 16 (by omega), ht.1 17 (by omega), ht.1 18 (by omega), ← r0, ← r1, ← r2, nI_1]
      by_cases g : c.1 (B + 3) (a1 + i') = 0
      · rw [if_pos g, n0 g]
      · rw [if_neg g], fun k hk => by rw [bf_n (by omega)]; exact ht.1 k hk, SI_buf (SI_buf (SI_buf ht.2 (by omega)) (by omega)) (by omega)⟩)
    (fun t' _ => by
      dsimp only
      unfold f_Mo_move_L3
      rw [Nat.zero_add, if_pos (nI_le (Nat.le_refl _) (by omega))])
  obtain ⟨e1, e2, e3⟩ := hw
  refine ⟨?_, e3⟩
  have cells := fun j hj => bf_at (B := B) (c := c) (m := m) (a1 := a1) (j := j) k hj
  generalize itN (bfM B c a1) m 0 k = m1 at e1 e2 e3 cells
  have hw2 := wh_it (L := fun q : Int32 × St => f_Mo_move_L89 x2 (nI k) q.1 q.2) (f := cvM B z c a1 a2) (s := m1) (a := a2) 0 k (fun t' => (∀ k, k < 16 ∨ 18 < k → t'.1 k = m1.1 k)) (fun _ _ => rfl)
    (fun t' i' hi ht => ⟨by
      dsimp only
      obtain ⟨d0, d1, d2⟩ := cells i' hi
      have hz2 : t'.1 0 28 = nI z := by rw [ht 0 (by omega)]; exact RB_z e3.1
      unfold f_Mo_move_L89 cvM
      rw [Nat.zero_add, if_neg (nI_ge hi (by omega)), hz2, hx2.resolve_left (by omega), ix4096, nI_add, Nat.add_assoc, show a2 + i' - a2 = i' by omega]
      simp only [lt, gd_nI (show 4096 * z + (a2 + i') < 8192 by omega) (show 8192 < 2 ^ 31 by omega), nI_clamp (show 4096 * z + (a2 + i') < 2 ^ 31 by omega), gd_nI (show i' < 256 by omega) (show 256 < 2 ^ 31 by omega), nI_clamp (show i' < 2 ^ 31 by omega)]
      rw [uI_n (show 46 ≠ 16 by omega), uI_n (show 47 ≠ 17 by omega), uI_n (show 47 ≠ 16 by omega), ht 45 (by omega), ht 46 (by omega), ht 47 (by omega), d0, d1, d2, nI_1], fun k hk => by unfold cvM; rw [uI_n (by omega), uI_n (by omega), uI_n (by omega)]; exact ht k hk⟩)
    (fun t' _ => by
      dsimp only
      unfold f_Mo_move_L89
      rw [Nat.zero_add, if_pos (nI_le (Nat.le_refl _) (by omega))])
  unfold f_Mo_move
  rw [← nI_0, e1, Option.bind_some, hw2.1]
  rfl
theorem S_move {z B n i N : Nat} {t : Int32} {c0 m0 c m : St} (h : SI z B n i N t c0 m0 c m) {x1 x2 : Int32} {a1 a2 k : Nat} (hk : k ≤ 256) (hx1 : k = 0 ∨ x1 = nI a1) (hx2 : k = 0 ∨ x2 = nI a2) (h1 : a1 + k ≤ 4096) (h2 : a2 + k ≤ 4096) :
    ∃ c' m', f_Me_move B x1 x2 (nI k) c = some c' ∧ f_Mo_move x1 x2 (nI k) m = some m' ∧ SI z B n i N t c0 m0 c' m' := by
  obtain ⟨e1, e2⟩ := mo_move h hk hx1 hx2 h1 h2
  exact ⟨_, _, me_move hx1 hx2 h1 h2, e1, itN_inv2 (fun s u => SI z B n i N t c0 m0 s u) e2 k (fun s u i' hi hst => SI_cv h.2.2.1 hst (by omega) (by omega))⟩
theorem o_copy {z B n i N P b : Nat} {t : Int32} {c0 m0 c m : St} (h : SI z B n i N t c0 m0 c m) (hX : PX B P b i N 45 c0 m0) (he : c.1 B 11 = 0) :
    ∃ c' m', f_Ma_copyBytes B c = some c' ∧ f_Mo_copy (nI (600 * b + 3 * i)) m = some m' ∧ SI z B (n + 4) i N t c0 m0 c' m' := by
  obtain ⟨r, hr⟩ := PX_R hX (j := 0) (by omega) rfl
  obtain ⟨ra, hra⟩ := PX_R hX (j := 1) (by omega) rfl
  have hkb := PX_E hX (j := 2) (by omega) rfl
  have hr8 := hr.1
  obtain ⟨_, q2, q3⟩ := rd_R h hX (by omega) hr (v := 0) rfl
  obtain ⟨x1, x2, x3⟩ := rd_m h hX (by omega) hr (x := nI (600 * b + 3 * i)) rfl
  obtain ⟨va, sa, oa, na, ea, xa, ya, za, _⟩ := rd_t h hX (by omega) hra (B + 34) (w := 1) rfl (x := nI (600 * b + 3 * i) + 1) (nI_1 _)
  have h1 := SI_ab h (k := B + 34) (.inl rfl) (v := va) (s := sa) (o := oa)
  obtain ⟨vb, sb, ob, nb, eb, xb, yb, zb⟩ := rd_e h1 hX (by omega) hkb (B + 35) (w := 2) rfl (x := nI (600 * b + 3 * i) + 2) (nI_add _ 2)
  have h2 := SI_ab h1 (k := B + 35) (.inr rfl) (v := vb) (s := sb) (o := ob)
  have ha0 : (dP (dP c (B + 34) va sa oa) (B + 35) vb sb ob).1 (B + 34) 0 = va := by rw [dP_n0 (by omega), dP_0]
  have ha1 : (dP (dP c (B + 34) va sa oa) (B + 35) vb sb ob).1 (B + 34) 1 = sa := by rw [dP_n0 (by omega), dP_1]
  have ha2 : (dP (dP c (B + 34) va sa oa) (B + 35) vb sb ob).1 (B + 34) 2 = oa := by rw [dP_n0 (by omega), dP_2' na]
  have hb0 : (dP (dP c (B + 34) va sa oa) (B + 35) vb sb ob).1 (B + 35) 0 = vb := dP_0
  have hb1 : (dP (dP c (B + 34) va sa oa) (B + 35) vb sb ob).1 (B + 35) 1 = sb := dP_1
  have hb2 : (dP (dP c (B + 34) va sa oa) (B + 35) vb sb ob).1 (B + 35) 2 = ob := dP_2' nb
  have hrr : ∀ j, (dP (dP c (B + 34) va sa oa) (B + 35) vb sb ob).1 (B + 26 + r) j = c.1 (B + 26 + r) j := fun j => by rw [dP_n0 (by omega), dP_n0 (by omega)]
  have he2 : (dP (dP c (B + 34) va sa oa) (B + 35) vb sb ob).1 B 11 = 0 := by rw [dP_n0 (by omega), dP_n0 (by omega)]; exact he
  have q4 := (rd_R h2 hX (by omega) hr (v := 0) rfl).2.1
  have eC0 : f_Ma_copyBytes B c = (f_Ma_reportShade B (B + 26 + r) 2 (dP (dP c (B + 34) va sa oa) (B + 35) vb sb ob)).bind fun q12 => (f_Ma_reportShade B (B + 34) 2 q12).bind fun q14 => (f_Ma_reportShade B (B + 35) 5 q14).bind fun q16 => if (f_Ma_isCount (q16.1 (B + 35) 0)) = 0 then ((f_Ma_trap B 4 q16).bind fun q27 => some q27) else (f_Ma_isValid B (q16.1 (B + 34) 0) (q16.1 (B + 35) 0) q16).bind fun q19 => if q19.1 = 0 then some (q19.2) else (f_Ma_isValid B (c.1 (B + 26 + r) 0) (q19.2.1 (B + 35) 0) (q19.2)).bind fun q22 => if q22.1 = 0 then some (q22.2) else (f_Me_move B (q22.2.1 (B + 34) 0) (c.1 (B + 26 + r) 0) (q22.2.1 (B + 35) 0) (q22.2)).bind fun q25 => some q25 := by
    unfold f_Ma_copyBytes
    rw [q2, Option.bind_some, if_pos q3, lt_eq, ea, Option.bind_some, eb, Option.bind_some, q4, Option.bind_some, if_pos q3]
  rw [eC0]
  generalize dP (dP c (B + 34) va sa oa) (B + 35) vb sb ob = c2 at h2 ha0 ha1 ha2 hb0 hb1 hb2 he2 hrr
  obtain ⟨c3, m3, f1, f2, f3, f4⟩ := S_rep h2 (B + 26 + r) 2 (hrr 1) (hrr 2)
  have k34 : c3.1 (B + 34) = c2.1 (B + 34) := f4.1 _ (by omega)
  obtain ⟨c4, m4, p1, p2, p3, p4⟩ := S_rep f3 (B + 34) 2 (s := sa) (o := oa) (by rw [k34]; exact ha1) (by rw [k34]; exact ha2)
  have k35 : c4.1 (B + 35) = c2.1 (B + 35) := (p4.1 _ (by omega)).trans (f4.1 _ (by omega))
  obtain ⟨c5, m5, g1, g2, g3, g4⟩ := S_rep p3 (B + 35) 5 (s := sb) (o := ob) (by rw [k35]; exact hb1) (by rw [k35]; exact hb2)
  have N4 := NT_tr f4 p4
  have N5 := NT_tr N4 g4
  have k35' : c5.1 (B + 35) = c2.1 (B + 35) := N5.1 _ (by omega)
  have k34' : c5.1 (B + 34) = c2.1 (B + 34) := N5.1 _ (by omega)
  have he5 : c5.1 B 11 = 0 := by rw [N5.1 B (by omega)]; exact he2
  have eM : f_Mo_copy (nI (600 * b + 3 * i)) m = f_Mo_copy_J70 (nI (600 * b + 3 * i)) vb m5 := by
    unfold f_Mo_copy
    rw [xb, x2, x3]
    simp only [Option.bind_some]
    refine (f2 (fun q => f_Mo_copy_J26 (nI (600 * b + 3 * i)) vb q)).trans ?_
    unfold f_Mo_copy_J26
    rw [(NT_rd f4 _).2.1, ya, (NT_rd f4 _).2.2, za]
    simp only [Option.bind_some]
    refine (p2 (fun q => f_Mo_copy_J48 (nI (600 * b + 3 * i)) vb q)).trans ?_
    unfold f_Mo_copy_J48
    rw [(NT_rd N4 _).2.1, yb, (NT_rd N4 _).2.2, zb]
    simp only [Option.bind_some]
    exact g2 (fun q => f_Mo_copy_J70 (nI (600 * b + 3 * i)) vb q)
  rw [eM, f1, Option.bind_some, p1, Option.bind_some, g1, Option.bind_some, k35', hb0, k34', ha0]
  have w1 : f_Mo_value (nI (600 * b + 3 * i)) m5 = some (c.1 (B + 26 + r) 0) := by rw [(NT_rd N5 _).1]; exact x1
  have w2 : f_Mo_value (nI (600 * b + 3 * i) + 1) m5 = some va := by rw [(NT_rd N5 _).1]; exact xa
  unfold f_Mo_copy_J70 f_Mo_copy_J81
  by_cases hc : f_Ma_isCount vb = 0
  · obtain ⟨c6, m6, u1, u2, u3⟩ := S_trap g3 he5 (v := 4) (by omega)
    rw [if_pos hc]
    refine ⟨c6, m6, ?_, ?_, SI_mono u3 (by omega)⟩
    · show (f_Ma_trap B (nI 4) c5).bind _ = _; rw [u1]; rfl
    · have tr : ((f_Mo_trap 4 m5).bind fun q10 => some q10) = some m6 := by show (f_Mo_trap (nI 4) m5).bind _ = _; rw [u2]; rfl
      rcases cnt_out hc with g | g
      · rw [if_pos g]; exact tr
      · by_cases g0 : vb < 0
        · rw [if_pos g0]; exact tr
        · rw [if_neg g0, if_neg (Int32.not_le.mpr g)]; exact tr
  · obtain ⟨k, hk, rfl⟩ := cnt_in hc
    rw [if_neg hc, if_neg (nI_pos (by omega)), if_pos (show nI k ≤ 256 from nI_le (b := 256) hk (by decide)), w1, Option.bind_some, w2, Option.bind_some]
    rcases S_valid g3 va (k := k) hk with ⟨hv, u1, u2⟩ | ⟨c6, m6, u1, u2, u3, u4⟩
    · obtain ⟨a1, hx1, ha1', _⟩ := valid_a hv
      rw [u1, u2]
      simp only [Option.bind_some]
      rw [if_neg (by decide), if_neg (by decide), k35', hb0]
      rcases S_valid g3 (c.1 (B + 26 + r) 0) (k := k) hk with ⟨hv2, v1, v2⟩ | ⟨c6, m6, v1, v2, v3, v4⟩
      · obtain ⟨a2, hx2, ha2', _⟩ := valid_a hv2
        rw [v1, v2]
        simp only [Option.bind_some]
        rw [if_neg (by decide), if_neg (by decide), k35', hb0, k34', ha0]
        obtain ⟨c6, m6, w1, w2, w3⟩ := S_move g3 hk hx1 hx2 ha1' ha2'
        rw [w1, w2]
        exact ⟨c6, m6, rfl, rfl, SI_mono w3 (by omega)⟩
      · rw [v1, v2]
        simp only [Option.bind_some]
        rw [if_pos trivial, if_pos trivial]
        exact ⟨c6, m6, rfl, rfl, SI_mono v3 (by omega)⟩
    · rw [u1, u2]
      simp only [Option.bind_some]
      rw [if_pos trivial, if_pos trivial]
      exact ⟨c6, m6, rfl, rfl, SI_mono u3 (by omega)⟩
