/-! ===== taking, with its bytes ===== -/
theorem HX_of {z B : Nat} {c m c' m' : St} {k qs qe : Nat} {F S C W Q : Nat → Nat} (h : HX z B c m k qs qe F S C W Q) (h1 : ∀ k, B + 6 ≤ k → k < B + 14 → c'.1 k = c.1 k) (h2 : m'.1 33 = m.1 33) (h3 : m'.1 35 = m.1 35) : HX z B c' m' k qs qe F S C W Q := by
  unfold HX
  rw [h1 (B + 6) (by omega) (by omega), h1 (B + 7) (by omega) (by omega), h1 (B + 8) (by omega) (by omega), h1 (B + 9) (by omega) (by omega), h1 (B + 12) (by omega) (by omega), h1 (B + 13) (by omega) (by omega), h2, h3]
  exact h
theorem itN_keep {f : St → Nat → St} {s : St} {a q : Nat} (n : Nat) (h : ∀ t x, (f t x).1 q = t.1 q) : (itN f s a n).1 q = s.1 q :=
  itN_inv (fun t => t.1 q = s.1 q) rfl n (fun t i _ ht => (h t (a + i)).trans ht)
/-- the state after taking a block of size s at unit f -/
def NB (z B n i N : Nat) (t : Int32) (c0 m0 c m : St) (k qs qe : Nat) (F S C W Q : Nat → Nat) (s f : Nat) (c' m' : St) : Prop :=
  k < 100 ∧ s ≤ 512 ∧ f + (2 + (s + 7) / 8) ≤ 256 ∧ SI z B n i N t c0 m0 c' m' ∧ HX z B c' m' (k + 1) qs qe (fun j => if j = k + 1 then f else F j) (fun j => if j = k + 1 then s else S j) (fun j => if j = k + 1 then 2 else C j) (fun u => if f ≤ u ∧ u < f + (2 + (s + 7) / 8) then k + 1 else W u) Q
      ∧ frU W (2 + (s + 7) / 8) f ∧ (∀ q, q < B + 1 ∨ B + 14 ≤ q → c'.1 q = c.1 q) ∧ (∀ q, q < 16 ∨ (19 < q ∧ q < 28 ∧ q ≠ 24) ∨ q = 33 ∨ 34 < q → m'.1 q = m.1 q)
theorem S_alloc0 {z B n i N : Nat} {t : Int32} {c0 m0 c m : St} (h : SI z B n i N t c0 m0 c m) {k qs qe : Nat} {F S C W Q : Nat → Nat} (hH : HX z B c m k qs qe F S C W Q) (v1 : Int32) :
    (f_Ma_allotBlock B v1 0 c = some (0, c) ∧ f_Mo_blockOf v1 m = some (0, m))
    ∨ (∃ s f c' m', v1 = nI s ∧ f_Ma_allotBlock B v1 0 c = some (nI (1032 + 8 * f), c') ∧ f_Mo_blockOf v1 m = some (nI (k + 1), m') ∧ NB z B n i N t c0 m0 c m k qs qe F S C W Q s f c' m') := by
  rcases S_make h hH v1 with ⟨e1, e2⟩ | ⟨s, f, c', m', hk, hs, rfl, hf, e1, e2, e3, e4, e5, e6, e7⟩
  · left; refine ⟨?_, e2⟩
    unfold f_Ma_allotBlock
    rw [e1, Option.bind_some, lt_eq]
    exact if_pos rfl
  · right
    have ea : c'.1 (B + 7) (k + 1) = nI (1032 + 8 * f) := by
      have := (e4.2.2.1 (k + 1) (by omega) (by omega)).1
      simp only [if_true] at this; exact this
    refine ⟨s, f, itN (fun s x => ub B s x (8 + nI (k + 1))) c' (1032 + 8 * f) s, _, rfl, ?_, e2, hk, hs, hf, ?_, ?_, e5, fun q hq => ?_, fun q hq => ?_⟩
    · unfold f_Ma_allotBlock
      rw [e1, Option.bind_some, lt_eq, if_neg (nI_ne0 (by omega) (by omega)), gd_nI (by omega) (by omega), nI_clamp (by omega), ea, lt_eq, if_pos rfl, me_unset (by omega)]
      rfl
    · exact itN_inv2 (fun s u => SI z B n i N t c0 m0 s u) e3 s (fun s' u j hj hst => SI_ub hst (by omega) (.inl (by omega)) _)
    · refine HX_of e4 (fun q h1 h2 => itN_keep s (fun t x => ub_n (by omega))) (itN_keep s (fun t x => um_n (by omega))) (itN_keep s (fun t x => um_n (by omega)))
    · rw [itN_keep s (fun t x => ub_n (by omega))]; exact e6 q (by omega)
    · rw [itN_keep s (fun t x => um_n (by omega))]; exact e7 q (by omega)
/-! zeroed -/
def zC (B : Nat) (t : St) (y : Nat) : St := pB B (uI t (B + 5) y 1) y 0 0 0
def zMM (z : Nat) (t : St) (y : Nat) : St := uI (uI (uI (uI t 19 (4096 * z + y) 1) 16 (4096 * z + y) 0) 17 (4096 * z + y) 0) 18 (4096 * z + y) 0
def zM3 (z : Nat) (t : St) (y : Nat) : St := uI (uI (uI t 16 (4096 * z + y) 0) 17 (4096 * z + y) 0) 18 (4096 * z + y) 0
theorem zM3_g {z : Nat} {t : St} {y q j : Nat} : (zM3 z t y).1 q j = if (q = 16 ∨ q = 17 ∨ q = 18) ∧ j = 4096 * z + y then 0 else t.1 q j := by
  unfold zM3; rw [uI_g2, uI_g2, uI_g2]; grind
theorem zMM_g {z : Nat} {t : St} {y q j : Nat} : (zMM z t y).1 q j = if (q = 16 ∨ q = 17 ∨ q = 18) ∧ j = 4096 * z + y then 0 else if q = 19 ∧ j = 4096 * z + y then 1 else t.1 q j := by
  unfold zMM; rw [uI_g2, uI_g2, uI_g2, uI_g2]; grind
theorem zM3_at {z : Nat} {t : St} {a q j : Nat} : ∀ n, (itN (zM3 z) t a n).1 q j = if (q = 16 ∨ q = 17 ∨ q = 18) ∧ 4096 * z + a ≤ j ∧ j < 4096 * z + a + n then 0 else t.1 q j
  | 0 => by rw [if_neg (by omega)]; rfl
  | n + 1 => by
    show (zM3 z (itN (zM3 z) t a n) (a + n)).1 q j = _
    rw [zM3_g, zM3_at n]; grind
theorem zMM_at {z : Nat} {t : St} {a q j : Nat} : ∀ n, (itN (zMM z) t a n).1 q j = if (q = 16 ∨ q = 17 ∨ q = 18) ∧ 4096 * z + a ≤ j ∧ j < 4096 * z + a + n then 0 else if q = 19 ∧ 4096 * z + a ≤ j ∧ j < 4096 * z + a + n then 1 else t.1 q j
  | 0 => by rw [if_neg (by omega), if_neg (by omega)]; rfl
  | n + 1 => by
    show (zMM z (itN (zMM z) t a n) (a + n)).1 q j = _
    rw [zMM_g, zMM_at n]; grind
theorem um_g {z : Nat} {t : St} {y q j : Nat} {o : Int32} (h : ¬ ((q = 16 ∨ q = 17 ∨ q = 18) ∧ j = 4096 * z + y)) (h2 : ¬ (q = 24 ∧ j = z)) : (um z t y o).1 q j = if q = 19 ∧ j = 4096 * z + y then 1 else t.1 q j := by
  unfold um
  rw [uI_o (by omega), uI_o (by omega), uI_o (by omega), uI_o h2, uI_g2]
theorem um_at {z : Nat} {t : St} {a q j : Nat} {o : Int32} : ∀ n, ¬ ((q = 16 ∨ q = 17 ∨ q = 18) ∧ 4096 * z + a ≤ j ∧ j < 4096 * z + a + n) → ¬ (q = 24 ∧ j = z) → (itN (fun t x => um z t x o) t a n).1 q j = if q = 19 ∧ 4096 * z + a ≤ j ∧ j < 4096 * z + a + n then 1 else t.1 q j
  | 0, _, _ => by rw [if_neg (by omega)]; rfl
  | n + 1, h, h2 => by
    show (um z (itN (fun t x => um z t x o) t a n) (a + n) o).1 q j = _
    rw [um_g (by omega) h2, um_at n (by omega) h2]; grind
theorem itN_2 {f : St → Nat → St} {s : St} {a : Nat} (n : Nat) (h : ∀ t x, (f t x).2 = t.2) : (itN f s a n).2 = s.2 :=
  itN_inv (fun t => t.2 = s.2) rfl n (fun t i _ ht => (h t (a + i)).trans ht)
theorem zero_eq {z : Nat} {m : St} {a s : Nat} {o : Int32} : itN (zM3 z) (uI (itN (fun t x => um z t x o) m a s) 24 z (m.1 24 z)) a s = itN (zMM z) m a s := by
  refine St_ext (fun q j => ?_) ?_
  · rw [zM3_at, zMM_at, uI_g2]
    by_cases h1 : (q = 16 ∨ q = 17 ∨ q = 18) ∧ 4096 * z + a ≤ j ∧ j < 4096 * z + a + s
    · rw [if_pos h1, if_pos h1]
    · rw [if_neg h1, if_neg h1]
      by_cases h2 : q = 24 ∧ j = z
      · rw [if_pos h2, if_neg (by omega), h2.1, h2.2]
      · rw [if_neg h2, um_at s h1 h2]
  · have q1 := itN_2 (f := zM3 z) (s := uI (itN (fun t x => um z t x o) m a s) 24 z (m.1 24 z)) (a := a) s (fun t x => rfl)
    have q2 := itN_2 (f := zMM z) (s := m) (a := a) s (fun t x => rfl)
    have q3 := itN_2 (f := fun t x => um z t x o) (s := m) (a := a) s (fun t x => rfl)
    exact q1.trans (Eq.trans q3 q2.symm)
theorem SI_z {z B n i N : Nat} {t : Int32} {c0 m0 c m : St} (h : SI z B n i N t c0 m0 c m) {a : Nat} (ha : a < 4096) (ho : a < 3072 ∨ c.1 (B + 1) 5 ≠ 0) : SI z B n i N t c0 m0 (zC B c a) (zMM z m a) := by
  have h1 := SI_pB (SI_open h ha ho 1) ha 0 0 0
  unfold mB at h1
  rw [show (0 : Int32) &&& 255 = 0 by decide, if_pos rfl] at h1
  exact h1
theorem me_zero {B : Nat} {c : St} {a k : Nat} (ha : a + k ≤ 4096) : f_Me_setToZero B (nI a) (nI k) c = some (itN (zC B) c a k) := by
  have hw := wh_it (L := fun q : Int32 × St => f_Me_setToZero_L2 B (nI a) (nI k) q.1 q.2) (f := zC B) (s := c) (a := a) 0 k (fun _ => True) trivial
    (fun t i hi _ => ⟨by
      dsimp only
      unfold f_Me_setToZero_L2 zC
      rw [Nat.zero_add, if_neg (nI_ge hi (by omega)), nI_add, me_isByte (by omega), if_neg (by decide), gd_nI (by omega) (by omega), nI_clamp (by omega), bN1, nI_1, lt_eq, me_put (by omega)]
      rfl, trivial⟩)
    (fun t _ => by
      dsimp only
      unfold f_Me_setToZero_L2
      rw [Nat.zero_add, if_pos (nI_le (Nat.le_refl _) (by omega))])
  unfold f_Me_setToZero
  rw [← nI_0, hw.1]
  rfl
theorem zC_n {B : Nat} {c : St} {a q : Nat} (h : q < B + 2 ∨ B + 5 < q) : (zC B c a).1 q = c.1 q := by
  unfold zC; rw [pB_n (by omega), uI_n (by omega)]
theorem zMM_n {z : Nat} {m : St} {a q : Nat} (h : q < 16 ∨ 19 < q) : (zMM z m a).1 q = m.1 q := by
  unfold zMM; rw [uI_n (by omega), uI_n (by omega), uI_n (by omega), uI_n (by omega)]
theorem mo_zeroL {z : Nat} {m : St} {v1 : Int32} {k a s : Nat} (hz : m.1 0 28 = nI z) (h2 : z < 2) (hk : k ≤ 100) (h28 : m.1 28 (101 * z + k) = nI a) (ha : a + s ≤ 4096) :
    wh (fun q : Int32 × St => f_Mo_newBlock_L71 v1 (nI s) (nI k) q.1 q.2) (0, m) = some (nI s, itN (zM3 z) m a s) := by
  have hw := wh_it (L := fun q : Int32 × St => f_Mo_newBlock_L71 v1 (nI s) (nI k) q.1 q.2) (f := zM3 z) (s := m) (a := a) 0 s (fun t => t.1 0 = m.1 0 ∧ t.1 28 = m.1 28) ⟨rfl, rfl⟩
    (fun t j hj ht => ⟨by
      dsimp only
      unfold f_Mo_newBlock_L71 zM3
      rw [Nat.zero_add, if_neg (nI_ge hj (by omega)), ht.1, hz, ix101, gd_nI (by omega) (by omega), nI_clamp (by omega), ht.2, h28, ix4096, nI_add, lt_eq, Nat.add_assoc, nI_1]
      simp only [lt, gd_nI (show 4096 * z + (a + j) < 8192 by omega) (show 8192 < 2 ^ 31 by omega), nI_clamp (show 4096 * z + (a + j) < 2 ^ 31 by omega)], by unfold zM3; rw [uI_n (by omega), uI_n (by omega), uI_n (by omega), uI_n (by omega), uI_n (by omega), uI_n (by omega)]; exact ht⟩)
    (fun t _ => by
      dsimp only
      unfold f_Mo_newBlock_L71
      rw [Nat.zero_add, if_pos (nI_le (Nat.le_refl _) (by omega))])
  have := hw.1
  rw [nI_0, Nat.zero_add] at this
  exact this
/-- both ways of taking -/
theorem S_alloc {z B n i N P b o : Nat} {t : Int32} {c0 m0 c m : St} (h : SI z B n i N t c0 m0 c m) (hX : PX B P b i N o c0 m0) {r : Nat} (hr : kR c0 m0 P b i 0 r) (v1 : Int32) (w : Nat) (hw : w < 2) (hv : f_Mo_value (nI (600 * b + 3 * i) + 1) m = some v1) :
    ∃ a c' m', f_Ma_allotBlock B v1 (nI w) c = some (a, c') ∧ f_Mo_newBlock_J22 (nI (600 * b + 3 * i)) (nI w) m = f_Mo_give (nI r) a 0 0 m' ∧ SI z B n i N t c0 m0 c' m' ∧ c'.1 B = c.1 B := by
  obtain ⟨k, qs, qe, F, S, C, W, Q, hH⟩ := h.2.2.2.2.2.1
  have hz := RB_zb h.1
  have gz2 : ∀ {β : Type} (q : Option β), gd (nI z) 2 q = q := fun q => gd_nI hz (by omega)
  have kz : (nI z).toNatClampNeg = z := nI_clamp (by omega)
  have eM : f_Mo_newBlock_J22 (nI (600 * b + 3 * i)) (nI w) m = (f_Mo_blockOf v1 m).bind fun q7 => if q7.1 ≤ 0 then f_Mo_newBlock_J137 (nI (600 * b + 3 * i)) q7.1 (q7.2) else if nI w = 0 then f_Mo_newBlock_J137 (nI (600 * b + 3 * i)) q7.1 (q7.2) else gd (q7.2.1 0 28) 2 <| (wh (fun a : (Int32 × St) => f_Mo_newBlock_L71 (nI (600 * b + 3 * i)) v1 q7.1 a.1 a.2) (0, uI (q7.2) 24 ((q7.2.1 0 28) : Int32).toNatClampNeg (m.1 24 z))).bind (fun b21 => f_Mo_newBlock_J137 (nI (600 * b + 3 * i)) q7.1 (b21.2)) := by
    unfold f_Mo_newBlock_J22
    rw [RB_z h.1, gz2, kz, lt_eq, hv, Option.bind_some]
    rfl
  have J0 : ∀ m', SI z B n i N t c0 m0 c m' → f_Mo_newBlock_J137 (nI (600 * b + 3 * i)) 0 m' = f_Mo_give (nI r) 0 0 0 m' := by
    intro m' h'
    obtain ⟨g5, e5, _⟩ := rd_5 h' hX (j := 0) (by omega) (x := nI (600 * b + 3 * i)) rfl
    unfold f_Mo_newBlock_J137 f_Mo_newBlock_J168
    rw [g5, if_pos (by decide), e5, hr.2.2.1, bind_rt]
  have J1 : ∀ (c' m' : St) (k' : Nat) (a : Int32), SI z B n i N t c0 m0 c' m' → 1 ≤ k' → k' ≤ 100 → m'.1 28 (101 * z + k') = a → f_Mo_newBlock_J137 (nI (600 * b + 3 * i)) (nI k') m' = f_Mo_give (nI r) a 0 0 m' := by
    intro c' m' k' a h' h1 h2 h28
    obtain ⟨g5, e5, _⟩ := rd_5 h' hX (j := 0) (by omega) (x := nI (600 * b + 3 * i)) rfl
    unfold f_Mo_newBlock_J137 f_Mo_newBlock_J168
    rw [g5, if_neg (nI_nle (by omega) (by omega)), RB_z h'.1, ix101, gd_nI (by omega) (by omega), nI_clamp (show 101 * z + k' < 2 ^ 31 by omega), h28, e5, hr.2.2.1, bind_rt]
  rw [eM]
  have hcase : w = 0 ∨ w = 1 := by omega
  rcases hcase with rfl | rfl
  · rcases S_alloc0 h hH v1 with ⟨e1, e2⟩ | ⟨s, f, c', m', rfl, e1, e2, hk, hs, hf, e3, e4, e5, e6, e7⟩
    · refine ⟨0, c, m, e1, ?_, h, rfl⟩
      rw [e2, Option.bind_some]
      dsimp only
      rw [if_pos (by decide)]; exact J0 m h
    · refine ⟨_, c', m', e1, ?_, e3, e6 B (by omega)⟩
      rw [e2, Option.bind_some]
      dsimp only
      rw [if_neg (nI_nle (by omega) (by omega)), if_pos (show nI 0 = 0 from rfl)]
      refine J1 c' m' (k + 1) _ e3 (by omega) (by omega) ?_
      have := (HX_cells e3.1 e4 (j := k + 1) (by omega) (by omega)).1
      simp only [if_true] at this; exact this
  · rcases S_make h hH v1 with ⟨e1, e2⟩ | ⟨s, f, c', m', hk, hs, rfl, hf, e1, e2, e3, e4, e5, e6, e7⟩
    · refine ⟨0, c, m, ?_, ?_, h, rfl⟩
      · unfold f_Ma_allotBlock
        rw [e1, Option.bind_some, lt_eq]
        exact if_pos rfl
      · rw [e2, Option.bind_some]
        dsimp only
        rw [if_pos (by decide)]; exact J0 m h
    · have ea : c'.1 (B + 7) (k + 1) = nI (1032 + 8 * f) := by
        have := (e4.2.2.1 (k + 1) (by omega) (by omega)).1
        simp only [if_true] at this; exact this
      have e28 : m'.1 28 (101 * z + (k + 1)) = nI (1032 + 8 * f) := by
        have := (HX_cells e3.1 e4 (j := k + 1) (by omega) (by omega)).1
        simp only [if_true] at this; exact this
      have hS : SI z B n i N t c0 m0 (itN (zC B) c' (1032 + 8 * f) s) (itN (zMM z) m' (1032 + 8 * f) s) := itN_inv2 (fun s u => SI z B n i N t c0 m0 s u) e3 s (fun s' u j hj hst => SI_z hst (by omega) (.inl (by omega)))
      have hum : ∀ q, q < 16 ∨ (19 < q ∧ q ≠ 24) → (itN (fun t x => um z t x (8 + nI (k + 1))) m' (1032 + 8 * f) s).1 q = m'.1 q := fun q hq => itN_keep s (fun t x => um_n hq)
      refine ⟨nI (1032 + 8 * f), _, _, ?_, ?_, hS, ?_⟩
      · unfold f_Ma_allotBlock
        rw [e1, Option.bind_some, lt_eq, if_neg (nI_ne0 (by omega) (by omega)), gd_nI (by omega) (by omega), nI_clamp (by omega), ea, lt_eq, if_neg (show ¬ nI 1 = 0 by decide), me_zero (by omega)]
        rfl
      · rw [e2, Option.bind_some]
        dsimp only
        rw [if_neg (nI_nle (by omega) (by omega)), if_neg (show ¬ nI 1 = 0 by decide), hum 0 (by omega), RB_z e3.1, gz2, kz, ← e7 24 (by omega), mo_zeroL (a := 1032 + 8 * f) (by rw [uI_n (by omega), hum 0 (by omega)]; exact RB_z e3.1) hz (by omega) (by rw [uI_n (by omega), hum 28 (by omega)]; exact e28) (by omega), Option.bind_some]
        dsimp only
        rw [zero_eq]
        refine J1 _ _ (k + 1) _ hS (by omega) (by omega) ?_
        rw [itN_keep s (fun t x => zMM_n (by omega))]; exact e28
      · rw [itN_keep s (fun t x => zC_n (by omega))]; exact e6 B (by omega)
theorem o_allot {z B n i N P b o : Nat} {t : Int32} {c0 m0 c m : St} (h : SI z B n i N t c0 m0 c m) (hX : PX B P b i N o c0 m0) (he : c.1 B 11 = 0) (ho : o = 41 ∨ o = 42) :
    ∃ c' m', f_Ma_allot B (nI o) c = some c' ∧ f_Mo_act (nI o) (nI (600 * b + 3 * i)) m = some m' ∧ SI z B (n + 1) i N t c0 m0 c' m' := by
  have k0 : fm o 0 = 1 := by rcases ho with rfl | rfl <;> rfl
  have k1 : fm o 1 = 3 := by rcases ho with rfl | rfl <;> rfl
  obtain ⟨r, hr⟩ := PX_R hX (by omega) k0
  have hkb := PX_E hX (by omega) k1
  obtain ⟨vb, sb, ob, nb, eb, xb, yb, zb⟩ := rd_e h hX (by omega) hkb (B + 35) (w := 1) rfl (x := nI (600 * b + 3 * i) + 1) (nI_1 _)
  have h2 := SI_ab h (k := B + 35) (.inr rfl) (v := vb) (s := sb) (o := ob)
  have hb0 : (dP c (B + 35) vb sb ob).1 (B + 35) 0 = vb := dP_0
  have hb1 : (dP c (B + 35) vb sb ob).1 (B + 35) 1 = sb := dP_1
  have hb2 : (dP c (B + 35) vb sb ob).1 (B + 35) 2 = ob := dP_2' nb
  have he2 : (dP c (B + 35) vb sb ob).1 B 11 = 0 := by rw [dP_n0 (by omega)]; exact he
  obtain ⟨w, hw, ew⟩ : ∃ w, w < 2 ∧ w = if o = 42 then 1 else 0 := ⟨_, by split <;> omega, rfl⟩
  have eC0 : f_Ma_allot B (nI o) c = (f_Ma_reportShade B (B + 35) 5 (dP c (B + 35) vb sb ob)).bind fun q3 => (f_Ma_operand B 0 q3).bind fun q5 => f_Ma_allot_J43 B (nI w) (q3.1 (B + 35) 0) q5 q3 := by
    unfold f_Ma_allot
    rw [eb, Option.bind_some]
    rcases ho with rfl | rfl
    · rw [if_neg (by omega)] at ew; subst ew
      simp only [if_neg (show ¬ nI 41 = 42 by decide)]; rfl
    · rw [if_pos rfl] at ew; subst ew
      simp only [if_pos (show nI 42 = 42 from rfl)]; rfl
  have eM0 : f_Mo_act (nI o) (nI (600 * b + 3 * i)) m = f_Mo_newBlock (nI (600 * b + 3 * i)) (nI w) m := by
    unfold f_Mo_act f_Mo_act_J194 f_Mo_act_J207
    rcases ho with rfl | rfl
    · rw [if_neg (by omega)] at ew; subst ew
      rw [if_neg (show ¬ nI 41 = 35 by decide), if_neg (show ¬ nI 41 = 36 by decide), if_neg (show ¬ nI 41 = 37 by decide), if_neg (show ¬ nI 41 = 38 by decide), if_neg (show ¬ nI 41 = 39 by decide), if_neg (show ¬ nI 41 = 40 by decide), if_pos (show nI 41 = 41 from rfl), if_neg (show ¬ nI 41 = 42 by decide), bind_rt]; rfl
    · rw [if_pos rfl] at ew; subst ew
      rw [if_neg (show ¬ nI 42 = 35 by decide), if_neg (show ¬ nI 42 = 36 by decide), if_neg (show ¬ nI 42 = 37 by decide), if_neg (show ¬ nI 42 = 38 by decide), if_neg (show ¬ nI 42 = 39 by decide), if_neg (show ¬ nI 42 = 40 by decide), if_neg (show ¬ nI 42 = 41 by decide), if_pos (show nI 42 = 42 from rfl), if_pos (show nI 42 = 42 from rfl), bind_rt]; rfl
  rw [eC0, eM0]
  generalize dP c (B + 35) vb sb ob = c2 at h2 hb0 hb1 hb2 he2
  obtain ⟨c3, m3, f1, f2, f3, f4⟩ := S_rep h2 (B + 35) 5 hb1 hb2
  have he3 : c3.1 B 11 = 0 := by rw [f4.1 B (by omega)]; exact he2
  have eM : f_Mo_newBlock (nI (600 * b + 3 * i)) (nI w) m = f_Mo_newBlock_J22 (nI (600 * b + 3 * i)) (nI w) m3 := by
    unfold f_Mo_newBlock
    rw [yb, zb]
    simp only [Option.bind_some]
    exact f2 (fun q => f_Mo_newBlock_J22 (nI (600 * b + 3 * i)) (nI w) q)
  obtain ⟨a, c4, m4, g1, g2, g3, g4⟩ := S_alloc f3 hX hr vb w hw (by rw [(NT_rd f4 _).1]; exact xb)
  obtain ⟨c5, m5, u1, u2, u3, _⟩ := S_give g3 (by rw [g4]; exact he3) hr.1 a 0 0
  refine ⟨c5, m5, ?_, ?_, u3⟩
  · rw [f1, Option.bind_some, (rd_R f3 hX (by omega) hr (v := 0) rfl).1, Option.bind_some, f4.1 _ (by omega), hb0]
    unfold f_Ma_allot_J43
    rw [g1, Option.bind_some]
    dsimp only
    rw [u1]; rfl
  · rw [eM, g2, u2]
