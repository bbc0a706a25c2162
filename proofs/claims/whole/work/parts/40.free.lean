/-! ===== the quarantine's loop; giving back ===== -/
theorem S_keepL {z B n i N : Nat} {t : Int32} {c0 m0 : St} : ∀ (d : Nat) (c m : St) (k qs qe : Nat) (F S C W Q : Nat → Nat), SI z B n i N t c0 m0 c m → HX z B c m k qs qe F S C W Q → qe - qs = d →
    ∃ c' m', wh (fun a : St => f_He_keep_L58 B a) c = some c' ∧ wh (fun a : Int32 × St => f_Mo_freed_L98 a.1 a.2) (1, m) = some (0, m') ∧ SI z B n i N t c0 m0 c' m' ∧ (∀ q, q < B + 6 ∨ B + 14 ≤ q → c'.1 q = c.1 q) ∧ (∀ q, q ≠ 30 → m'.1 q = m.1 q) := by
  intro d
  induction d with
  | zero =>
    intro c m k qs qe F S C W Q h hH hd
    have hz := RB_zb h.1
    have hqq : qs = qe := by have := hH.2.2.2.2.2.2.2.1; omega
    have hs0 : sm (fun i => if C i = 1 then S i else 0) k = 0 := by
      apply Classical.byContradiction
      intro hn
      obtain ⟨j, j1, j2, j3⟩ := sm_pos (f := fun i => if C i = 1 then S i else 0) k (by omega)
      have hC : C j = 1 := by
        apply Classical.byContradiction; intro hc; rw [if_neg hc] at j3; omega
      obtain ⟨a, a1, a2, _⟩ := hH.2.2.2.2.2.2.2.2.2.2.2.2 j j1 j2 hC
      omega
    have hT : ∀ j, 1 ≤ j → j ≤ k → C j = 1 → m.1 33 (101 * z + j) = nI (0 : Nat) ∧ 0 ≤ 200 := by
      intro j j1 j2 hC
      obtain ⟨a, a1, a2, _⟩ := hH.2.2.2.2.2.2.2.2.2.2.2.2 j j1 j2 hC
      omega
    have L := mo_old h.1 hH (T := fun _ => 0) hT k 0 (by omega)
    rw [hs0] at L
    refine ⟨c, m, wh_inr ?_, ?_, h, fun _ _ => rfl, fun _ _ => rfl⟩
    · unfold f_He_keep_L58
      rw [hH.2.2.2.2.2.2.2.2.2.2.1, hs0, if_pos (by decide)]
    · have e1 : f_Mo_freed_L98 1 m = some (.inl (0, m)) := by
        unfold f_Mo_freed_L98 f_Mo_freed_J216_1 f_Mo_freed_J237_1
        rw [if_neg (by decide)]
        show ((wh (fun a : Int32 × Int32 × Int32 => f_Mo_freed_L111_2 a.1 a.2.1 a.2.2 m) (nI (sm (fun i => if C i = 1 then S i else 0) 0), nI (od C (fun _ => 0) 0), nI (0 + 1))).bind _) = _
        rw [L, Option.bind_some]
        dsimp only
        rw [if_pos (by decide), if_pos rfl]
      rw [wh_inl (by dsimp only; exact e1)]
      exact wh_inr (by dsimp only; unfold f_Mo_freed_L98; rw [if_pos rfl])
  | succ d ih =>
    intro c m k qs qe F S C W Q h hH hd
    have hz := RB_zb h.1
    have hq : qs < qe := by omega
    have g9 := hH.2.2.2.2.2.2.2.2.1
    have hk := hH.2.1
    have hqe : qe ≤ k := by
      rw [g9]; exact sm_le1 (f := fun j => if C j = 2 then 0 else 1) (fun j => by split <;> omega) k
    have hbd : sm (fun i => if C i = 1 then S i else 0) k ≤ 512 * k := by
      refine Nat.le_trans (Nat.le_of_eq (sm_congr (g := fun i => if 1 ≤ i ∧ i ≤ k ∧ C i = 1 then S i else 0) (fun j j1 j2 => ?_))) (sm_bd (b := 512) (fun j => ?_) k)
      · simp [j1, j2]
      · split
        · next hh => exact (hH.2.2.1 j hh.1 hh.2.1).2.2.2.1
        · omega
    obtain ⟨T, hTd⟩ : ∃ T : Nat → Nat, T = fun j => (m.1 33 (101 * z + j)).toNatClampNeg := ⟨_, rfl⟩
    have hTv : ∀ a, qs ≤ a → a < qe → T (Q a) = a + 1 := by
      intro a a1 a2
      obtain ⟨_, _, _, _, p5⟩ := hH.2.2.2.2.2.2.2.2.2.2.2.1 a a1 a2
      rw [hTd]; show (m.1 33 (101 * z + Q a)).toNatClampNeg = a + 1
      rw [p5, nI_clamp (by omega)]
    have hT : ∀ j, 1 ≤ j → j ≤ k → C j = 1 → m.1 33 (101 * z + j) = nI (T j) ∧ T j ≤ 200 := by
      intro j j1 j2 hC
      obtain ⟨a, a1, a2, rfl⟩ := hH.2.2.2.2.2.2.2.2.2.2.2.2 j j1 j2 hC
      obtain ⟨_, _, _, _, p5⟩ := hH.2.2.2.2.2.2.2.2.2.2.2.1 a a1 a2
      rw [hTv a a1 a2]; exact ⟨p5, by omega⟩
    have L := mo_old h.1 hH (T := T) hT k 0 (by omega)
    obtain ⟨p1, p2, p3, p4, p5⟩ := hH.2.2.2.2.2.2.2.2.2.2.2.1 qs (Nat.le_refl _) hq
    have hold : od C T k = Q qs := by
      obtain ⟨o0, o1⟩ := od_spec (C := C) (T := T) k
      have hne : od C T k ≠ 0 := fun h0 => o0 h0 (Q qs) p2 p3 p4
      obtain ⟨b1, b2, b3, b4⟩ := o1 hne
      obtain ⟨a, a1, a2, a3⟩ := hH.2.2.2.2.2.2.2.2.2.2.2.2 _ b1 b2 b3
      have h1 := b4 (Q qs) p2 p3 p4
      rw [← a3, hTv a a1 a2, hTv qs (Nat.le_refl _) hq] at h1
      rw [← a3, show a = qs by omega]
    rw [hold] at L
    have e98 : ∀ (J : Int32 × Int32 × Int32 → Option ((Int32 × St) ⊕ (Int32 × St))), ((wh (fun a : Int32 × Int32 × Int32 => f_Mo_freed_L111_2 a.1 a.2.1 a.2.2 m) (0, 0, 1)).bind J) = J (nI (sm (fun i => if C i = 1 then S i else 0) k), nI (Q qs), nI (k + 1)) := by
      intro J
      show ((wh (fun a : Int32 × Int32 × Int32 => f_Mo_freed_L111_2 a.1 a.2.1 a.2.2 m) (nI (sm (fun i => if C i = 1 then S i else 0) 0), nI (od C T 0), nI (0 + 1))).bind J) = _
      rw [L]; rfl
    by_cases hkeep : sm (fun i => if C i = 1 then S i else 0) k ≤ 512
    · refine ⟨c, m, wh_inr ?_, ?_, h, fun _ _ => rfl, fun _ _ => rfl⟩
      · unfold f_He_keep_L58
        rw [hH.2.2.2.2.2.2.2.2.2.2.1, if_pos (show nI _ ≤ 512 from nI_le (b := 512) hkeep (by decide))]
      · have e1 : f_Mo_freed_L98 1 m = some (.inl (0, m)) := by
          unfold f_Mo_freed_L98 f_Mo_freed_J216_1 f_Mo_freed_J237_1
          rw [if_neg (by decide), e98]
          dsimp only
          rw [if_pos (show nI _ ≤ 512 from nI_le (b := 512) hkeep (by decide)), if_pos rfl]
        rw [wh_inl (by dsimp only; exact e1)]
        exact wh_inr (by dsimp only; unfold f_Mo_freed_L98; rw [if_pos rfl])
    · obtain ⟨x1, x2, x3, x4, x5, x6⟩ := hH.2.2.1 (Q qs) p2 p3
      have hSle : S (Q qs) ≤ sm (fun i => if C i = 1 then S i else 0) k := by
        have := sm_upd (f := fun j => if C j = 1 then S j else 0) (j := Q qs) (v := 0) (n := k) p2 p3
        rw [p4, if_pos rfl] at this
        omega
      have eC : f_He_keep_L58 B c = some (.inl (evC B c (Q qs) qs (F (Q qs)) (2 + (S (Q qs) + 7) / 8) (nI (sm (fun i => if C i = 1 then S i else 0) k - S (Q qs))))) := by
        unfold f_He_keep_L58
        rw [hH.2.2.2.2.2.2.2.2.2.2.1, if_neg (show ¬ nI _ ≤ 512 from nI_ge (a := 512) (by omega) (by omega)), hH.2.2.2.2.2.1, hH.2.2.2.2.2.2.1, if_neg (nI_ge hq (by omega)), gd_nI (by omega) (by omega), nI_clamp (by omega), p1, lt_eq, nI_1, lt_eq, gd_nI (by omega) (by omega), nI_clamp (by omega), lt_eq, gd_nI (by omega) (by omega), uI_n (show B + 6 ≠ B + 9 by omega), uI_o (show ¬ (B + 6 = B + 6 ∧ (10 : Nat) = 8) by omega), hH.2.2.2.2.2.2.2.2.2.2.1, uI_n (show B + 8 ≠ B + 9 by omega), uI_n (show B + 8 ≠ B + 6 by omega), x2, nI_sub hSle, lt_eq]
        rw [he_own (f := F (Q qs)) (s := S (Q qs)) (by omega) (by rw [uI_n (by omega), uI_n (by omega), uI_n (by omega)]; exact x1) (by rw [uI_n (by omega), uI_n (by omega), uI_n (by omega)]; exact x2) x4 x5]
        rfl
      have eM : f_Mo_freed_L98 1 m = some (.inl (1, uI m 30 (101 * z + Q qs) 0)) := by
        unfold f_Mo_freed_L98 f_Mo_freed_J216_1 f_Mo_freed_J237_1
        rw [if_neg (by decide), e98]
        dsimp only
        rw [if_neg (show ¬ nI _ ≤ 512 from nI_ge (a := 512) (by omega) (by omega)), if_neg (by decide), RB_z h.1, ix101, gd_nI (by omega) (by omega), nI_clamp (by omega)]
        rfl
      have hHe := HX_ev (kp := nI (sm (fun i => if C i = 1 then S i else 0) k - S (Q qs))) hH hq rfl
      have hSe : SI z B n i N t c0 m0 (evC B c (Q qs) qs (F (Q qs)) (2 + (S (Q qs) + 7) / 8) (nI (sm (fun i => if C i = 1 then S i else 0) k - S (Q qs)))) (uI m 30 (101 * z + Q qs) 0) :=
        SI_heap h (RB_ev h.1 (by omega) _) (fun q hq => evC_n (by omega)) (uI_n (by omega)) (uI_n (by omega)) ⟨_, _, _, _, _, _, _, _, hHe⟩
      obtain ⟨c', m', r1, r2, r3, r4, r5⟩ := ih _ _ k (qs + 1) qe F S _ _ Q hSe hHe (by omega)
      refine ⟨c', m', ?_, ?_, r3, fun q hq => ?_, fun q hq => ?_⟩
      · rw [wh_inl eC]; exact r1
      · rw [wh_inl (by dsimp only; exact eM)]; exact r2
      · rw [r4 q hq]; exact evC_n (by omega)
      · rw [r5 q hq]; exact uI_n hq
theorem mo_closeL {z : Nat} {m : St} {j a s : Nat} (hz : m.1 0 28 = nI z) (h2 : z < 2) (hj : j ≤ 100) (h28 : m.1 28 (101 * z + j) = nI a) (h29 : m.1 29 (101 * z + j) = nI s) (ha : a + s ≤ 4096) :
    wh (fun q : Int32 × St => f_Mo_freed_L12 (nI (101 * z + j)) q.1 q.2) (0, m) = some (nI s, itN (fun t y => uI t 19 (4096 * z + y) 0) m a s) := by
  have hw := wh_it (L := fun q : Int32 × St => f_Mo_freed_L12 (nI (101 * z + j)) q.1 q.2) (f := fun t y => uI t 19 (4096 * z + y) 0) (s := m) (a := a) 0 s (fun t => t.1 0 = m.1 0 ∧ t.1 28 = m.1 28 ∧ t.1 29 = m.1 29) ⟨rfl, rfl, rfl⟩
    (fun t l hl ht => ⟨by
      dsimp only
      unfold f_Mo_freed_L12
      rw [Nat.zero_add, gd_nI (by omega) (by omega), nI_clamp (show 101 * z + j < 2 ^ 31 by omega), ht.2.2, h29, if_neg (nI_ge hl (by omega)), gd_nI (by omega) (by omega), ht.2.1, h28, ht.1, hz, ix4096, nI_add, gd_nI (by omega) (by omega), nI_clamp (show 4096 * z + a + l < 2 ^ 31 by omega), bN0, nI_1, Nat.add_assoc]
      rfl, by rw [uI_n (by omega), uI_n (by omega), uI_n (by omega)]; exact ht⟩)
    (fun t ht => by
      dsimp only
      unfold f_Mo_freed_L12
      rw [Nat.zero_add, gd_nI (by omega) (by omega), nI_clamp (show 101 * z + j < 2 ^ 31 by omega), ht.2.2, h29, if_pos (nI_le (Nat.le_refl _) (by omega))])
  have := hw.1
  rw [nI_0, Nat.zero_add] at this
  exact this
theorem S_freed {z B n i N : Nat} {t : Int32} {c0 m0 c m : St} (h : SI z B n i N t c0 m0 c m) {k qs qe : Nat} {F S C W Q : Nat → Nat} (hH : HX z B c m k qs qe F S C W Q) {j : Nat} (h1 : 1 ≤ j) (hj : j ≤ k) (hC : C j = 2) :
    ∃ c' m', f_Ma_keepBlock B (nI j) c = some c' ∧ f_Mo_freed (nI j) m = some m' ∧ SI z B n i N t c0 m0 c' m' ∧ (∀ q, q < B + 5 ∨ B + 14 ≤ q → c'.1 q = c.1 q) ∧ (∀ q, q = 28 ∨ q < 16 → m'.1 q = m.1 q) := by
  have hz := RB_zb h.1
  have hk := hH.2.1
  obtain ⟨x1, x2, x3, x4, x5, x6⟩ := hH.2.2.1 j h1 hj
  obtain ⟨y1, y2, y3, _⟩ := HX_cells h.1 hH h1 hj
  have gz2 : ∀ {β : Type} (q : Option β), gd (nI z) 2 q = q := fun q => gd_nI hz (by omega)
  have kz : (nI z).toNatClampNeg = z := nI_clamp (by omega)
  have g2 : ∀ {β : Type} (q : Option β), gd (nI (101 * z + j)) 202 q = q := fun q => gd_nI (by omega) (by omega)
  have k2 : (nI (101 * z + j)).toNatClampNeg = 101 * z + j := nI_clamp (by omega)
  have g1 : ∀ {β : Type} (q : Option β), gd (nI j) 101 q = q := fun q => gd_nI (by omega) (by omega)
  have k1 : (nI j).toNatClampNeg = j := nI_clamp (by omega)
  have hcl := me_close (B := B) (c := c) (x := nI (1032 + 8 * F j)) (a := 1032 + 8 * F j) (k := S j) (.inr rfl) (by omega)
  have hml := mo_closeL (RB_z h.1) hz (by omega) y1 y2 (show 1032 + 8 * F j + S j ≤ 4096 by omega)
  have hS2 : SI z B n i N t c0 m0 (itN (fun t y => uI t (B + 5) y 0) c (1032 + 8 * F j) (S j)) (itN (fun t y => uI t 19 (4096 * z + y) 0) m (1032 + 8 * F j) (S j)) :=
    itN_inv2 (fun s u => SI z B n i N t c0 m0 s u) h (S j) (fun s u l hl hst => SI_open hst (by omega) (.inl (by omega)) 0)
  have kc : ∀ q, q ≠ B + 5 → (itN (fun t y => uI t (B + 5) y 0) c (1032 + 8 * F j) (S j)).1 q = c.1 q := fun q hq => itN_keep _ (fun t x => uI_n hq)
  have km : ∀ q, q ≠ 19 → (itN (fun t y => uI t 19 (4096 * z + y) 0) m (1032 + 8 * F j) (S j)).1 q = m.1 q := fun q hq => itN_keep _ (fun t x => uI_n hq)
  have hH2 : HX z B (itN (fun t y => uI t (B + 5) y 0) c (1032 + 8 * F j) (S j)) (itN (fun t y => uI t 19 (4096 * z + y) 0) m (1032 + 8 * F j) (S j)) k qs qe F S C W Q := HX_of hH (fun q _ _ => kc q (by omega)) (km _ (by omega)) (km _ (by omega))
  generalize itN (fun t y => uI t (B + 5) y 0) c (1032 + 8 * F j) (S j) = c1 at hcl hS2 kc hH2
  generalize itN (fun t y => uI t 19 (4096 * z + y) 0) m (1032 + 8 * F j) (S j) = m1 at hml hS2 km hH2
  obtain ⟨hH3, hq⟩ := HX_kp (i := nI i) (kp := nI (sm (fun i => if C i = 1 then S i else 0) k + S j)) hH2 h1 hj hC rfl
  have hS3 : SI z B n i N t c0 m0 (kpC B c1 j qe (nI i) (nI (sm (fun i => if C i = 1 then S i else 0) k + S j))) (kpM z m1 j qe (nI i)) := by
    refine SI_heap hS2 (RB_kp hS2.1 (by omega) _ _) (fun q hq => kpC_n (by omega)) ?_ ?_ ⟨_, _, _, _, _, _, _, _, hH3⟩
    · unfold kpM; rw [uI_n (by omega), uI_n (by omega), uI_n (by omega), uI_n (by omega)]
    · unfold kpM; rw [uI_n (by omega), uI_n (by omega), uI_n (by omega), uI_n (by omega)]
  obtain ⟨c', m', r1, r2, r3, r4, r5⟩ := S_keepL _ _ _ k qs (qe + 1) F S _ W _ hS3 hH3 rfl
  refine ⟨c', m', ?_, ?_, r3, fun q hq => ?_, fun q hq => ?_⟩
  · unfold f_Ma_keepBlock
    rw [g1, g1, k1, x1, x2, hcl, Option.bind_some]
    unfold f_He_keep f_He_keep_J58
    rw [SI_9 hS2, g1, k1, lt_eq, g1, lt_eq, g1, uI_n (show B + 6 ≠ B + 11 by omega), uI_n (show B + 6 ≠ B + 9 by omega), hH2.2.2.2.2.2.2.2.2.2.2.1, uI_n (show B + 8 ≠ B + 11 by omega), uI_n (show B + 8 ≠ B + 9 by omega), (hH2.2.2.1 j h1 hj).2.1, nI_add, lt_eq]
    rw [uI_o (show ¬ (B + 6 = B + 6 ∧ (9 : Nat) = 10) by omega), uI_n (show B + 6 ≠ B + 11 by omega), uI_n (show B + 6 ≠ B + 9 by omega), hH2.2.2.2.2.2.2.1, if_neg (show ¬ 100 ≤ nI qe from nI_ge (b := 100) hq (by omega)), gd_nI hq (by omega), nI_clamp (by omega), lt_eq, uI_n (show B + 6 ≠ B + 13 by omega), uI_o (show ¬ (B + 6 = B + 6 ∧ (9 : Nat) = 10) by omega), uI_n (show B + 6 ≠ B + 11 by omega), uI_n (show B + 6 ≠ B + 9 by omega), hH2.2.2.2.2.2.2.1, nI_1, lt_eq]
    show ((wh (fun a : St => f_He_keep_L58 B a) (kpC B c1 j qe (nI i) (nI (sm (fun i => if C i = 1 then S i else 0) k + S j)))).bind _).bind _ = _
    rw [r1]; rfl
  · unfold f_Mo_freed
    rw [RB_z h.1, ix101, lt_eq, hml, Option.bind_some]
    dsimp only
    rw [g2, k2, lt_eq, g2, uI_n (show (0 : Nat) ≠ 30 by omega), SI_69 hS2, lt_eq, uI_n (show (0 : Nat) ≠ 32 by omega), uI_n (show (0 : Nat) ≠ 30 by omega), RB_z hS2.1, gz2, gz2, kz, uI_n (show (35 : Nat) ≠ 32 by omega), uI_n (show (35 : Nat) ≠ 30 by omega), hH2.2.2.2.2.2.2.2.2.2.1, nI_1, lt_eq, uI_n (show (0 : Nat) ≠ 35 by omega), uI_n (show (0 : Nat) ≠ 32 by omega), uI_n (show (0 : Nat) ≠ 30 by omega), RB_z hS2.1, gz2, kz, g2, uI_v, lt_eq]
    show ((wh (fun a : Int32 × St => f_Mo_freed_L98 a.1 a.2) (1, kpM z m1 j qe (nI i))).bind _) = _
    rw [r2]; rfl
  · rw [r4 q (by omega), kpC_n (by omega), kc q (by omega)]
  · rw [r5 q (by omega)]
    unfold kpM; rw [uI_n (by omega), uI_n (by omega), uI_n (by omega), uI_n (by omega), km q (by omega)]
/-- which block begins here, and is in use -/
theorem bl_beg {z B n i N : Nat} {t : Int32} {c0 m0 c m : St} (h : SI z B n i N t c0 m0 c m) {k qs qe : Nat} {F S C W Q : Nat → Nat} (hH : HX z B c m k qs qe F S C W Q) (v1 : Int32) :
    ∃ w, w ≤ k ∧ f_He_beginsAt B v1 c = some (nI w) ∧ f_Mo_inUse v1 m = some (nI w) ∧ (w ≠ 0 → C w = 2 ∧ v1 = nI (1032 + 8 * F w)) := by
  have hz := RB_zb h.1
  have hk := hH.2.1
  have hk34 : m.1 34 z = nI k := (RB_eq h.1 (show phi z 6 5 = some (34, z) from rfl)).symm.trans hH.1
  have gz2 : ∀ {β : Type} (q : Option β), gd (nI z) 2 q = q := fun q => gd_nI hz (by omega)
  have kz : (nI z).toNatClampNeg = z := nI_clamp (by omega)
  have st : ∀ j, 1 ≤ j → j ≤ k → ((C j = 2 ∧ nI (1032 + 8 * F j) = v1) → f_Mo_inUse_L2 v1 (nI j) m = some (.inr (.inr (nI j)))) ∧ (¬ (C j = 2 ∧ nI (1032 + 8 * F j) = v1) → f_Mo_inUse_L2 v1 (nI j) m = some (.inl (nI (j + 1)))) := by
    intro j j1 j2
    obtain ⟨e1, e2, e3, e4, e5, e6⟩ := HX_cells h.1 hH j1 j2
    have a5 : (nI (C j) = 2) ↔ C j = 2 := by rw [show (2 : Int32) = nI 2 from rfl, nI_eq (by omega) (by omega)]
    unfold f_Mo_inUse_L2 f_Mo_inUse_J53_1
    rw [RB_z h.1, gz2, kz, hk34, if_neg (nI_nlt j2 (by omega)), ix101]
    simp only [gd_nI (show 101 * z + j < 202 by omega) (show 202 < 2 ^ 31 by omega), nI_clamp (show 101 * z + j < 2 ^ 31 by omega), e1, e3, a5, nI_1]
    by_cases g1 : C j = 2 <;> by_cases g2 : nI (1032 + 8 * F j) = v1 <;> simp [g1, g2]
  have en : f_Mo_inUse_L2 v1 (nI (k + 1)) m = some (.inr (.inl (nI (k + 1)))) := by
    unfold f_Mo_inUse_L2
    rw [RB_z h.1, gz2, kz, hk34, if_pos (nI_lt (by omega) (by omega))]
  have fin : ∀ w, w ≤ k → (∀ j, 1 ≤ j → j ≤ k → C j = 2 ∧ nI (1032 + 8 * F j) = v1 → j = w) → (w ≠ 0 → C w = 2 ∧ nI (1032 + 8 * F w) = v1) → f_Mo_inUse v1 m = some (nI w) := by
    intro w hw h1 h2
    unfold f_Mo_inUse
    by_cases h0 : w = 0
    · subst h0
      have e : wh (fun a => f_Mo_inUse_L2 v1 a m) (nI 1) = wh (fun a => f_Mo_inUse_L2 v1 a m) (nI (k + 1)) := wh_run (fun j j1 j2 => (st j j1 (by omega)).2 (fun hh => by have := h1 j j1 (by omega) hh; omega)) (by omega)
      rw [show (1 : Int32) = nI 1 from rfl, e, wh_inr en]; rfl
    · have e : wh (fun a => f_Mo_inUse_L2 v1 a m) (nI 1) = wh (fun a => f_Mo_inUse_L2 v1 a m) (nI w) := wh_run (fun j j1 j2 => (st j j1 (by omega)).2 (fun hh => by have := h1 j j1 (by omega) hh; omega)) (by omega)
      rw [show (1 : Int32) = nI 1 from rfl, e, wh_inr ((st w (by omega) hw).1 (h2 h0))]; rfl
  have zero : ∀ w0, w0 ≤ k → f_He_ownerOf B v1 c = some (nI w0) → (∀ j, 1 ≤ j → j ≤ k → C j = 2 → nI (1032 + 8 * F j) = v1 → j = w0) → ∃ w, w ≤ k ∧ f_He_beginsAt B v1 c = some (nI w) ∧ f_Mo_inUse v1 m = some (nI w) ∧ (w ≠ 0 → C w = 2 ∧ v1 = nI (1032 + 8 * F w)) := by
    intro w0 hw0 hO hu
    by_cases h0 : w0 = 0
    · subst h0
      refine ⟨0, by omega, ?_, fin 0 (by omega) (fun j j1 j2 hh => hu j j1 j2 hh.1 hh.2) (fun h => absurd rfl h), fun h => absurd rfl h⟩
      unfold f_He_beginsAt f_He_leadsTo
      rw [hO, Option.bind_some, if_pos (show nI 0 = 0 from rfl), Option.bind_some, if_pos rfl]; rfl
    · obtain ⟨x1, x2, x3, x4, x5, x6⟩ := hH.2.2.1 w0 (by omega) hw0
      have n0 : ¬ nI w0 = 0 := nI_ne0 (by omega) (by omega)
      by_cases hm : C w0 = 2 ∧ nI (1032 + 8 * F w0) = v1
      · refine ⟨w0, hw0, ?_, fin w0 hw0 (fun j j1 j2 hh => hu j j1 j2 hh.1 hh.2) (fun _ => hm), fun _ => ⟨hm.1, hm.2.symm⟩⟩
        unfold f_He_beginsAt f_He_leadsTo
        rw [hO, Option.bind_some, if_neg n0, gd_nI (by omega) (by omega), nI_clamp (by omega), x3, hm.1, if_pos (show nI 2 = 2 from rfl), gd_nI (by omega) (by omega), x1, hm.2, lt_eq, Int32.sub_self, if_pos rfl, Option.bind_some, if_neg n0, gd_nI (by omega) (by omega), nI_clamp (by omega), x1, hm.2, if_pos rfl]
      · refine ⟨0, by omega, ?_, fin 0 (by omega) (fun j j1 j2 hh => ?_) (fun h => absurd rfl h), fun h => absurd rfl h⟩
        · have hl : f_He_leadsTo B v1 c = some 0 ∨ (f_He_leadsTo B v1 c = some (nI w0) ∧ C w0 = 2) := by
            unfold f_He_leadsTo
            rw [hO, Option.bind_some, if_neg n0, gd_nI (by omega) (by omega), nI_clamp (by omega), x3]
            by_cases hc : C w0 = 2
            · rw [hc, if_pos (show nI 2 = 2 from rfl), gd_nI (by omega) (by omega), x1, lt_eq, gd_nI (by omega) (by omega), x2]
              by_cases q1 : v1 - nI (1032 + 8 * F w0) = 0
              · rw [if_pos q1]; exact .inr ⟨rfl, rfl⟩
              · rw [if_neg q1]
                by_cases q2 : v1 - nI (1032 + 8 * F w0) ≤ 0
                · rw [if_pos q2]; exact .inl rfl
                · rw [if_neg q2]
                  by_cases q3 : nI (S w0) ≤ v1 - nI (1032 + 8 * F w0)
                  · rw [if_pos q3]; exact .inl rfl
                  · rw [if_neg q3]; exact .inr ⟨rfl, rfl⟩
            · rw [if_neg (show ¬ nI (C w0) = 2 from ne_l (k := 2) (by omega) (by omega) hc)]; exact .inl rfl
          unfold f_He_beginsAt
          rcases hl with hl | ⟨hl, hc⟩
          · rw [hl, Option.bind_some, if_pos rfl]; rfl
          · rw [hl, Option.bind_some, if_neg n0, gd_nI (by omega) (by omega), nI_clamp (by omega), x1, if_neg (fun e => hm ⟨hc, e⟩)]; rfl
        · have e := hu j j1 j2 hh.1 hh.2
          rw [e] at hh; exact absurd hh hm
  by_cases hl : v1 < 1024
  · refine zero 0 (by omega) (by unfold f_He_ownerOf; rw [if_pos hl]; rfl) (fun j j1 j2 hC hv => ?_)
    rw [← hv] at hl
    exact absurd hl (show ¬ nI (1032 + 8 * F j) < 1024 from nI_nlt (b := 1024) (by omega) (by have := (HX_cells h.1 hH j1 j2).2.2.2.2.1; omega))
  · by_cases hg : v1 < 3072
    · obtain ⟨y, hy, rfl⟩ : ∃ y, y < 3072 ∧ v1 = nI y := nI_rng (n := 3072) (by decide) (Int32.le_trans (by decide) (Int32.not_lt.mp hl)) hg
      have hy1 : 1024 ≤ y := (nI_leI (a := 1024) (by decide) (by omega)).mp (Int32.not_lt.mp hl)
      obtain ⟨w1, w2, w3⟩ := hH.2.2.2.1 ((y - 1024) / 8) (by omega)
      refine zero (W ((y - 1024) / 8)) w2 ?_ (fun j j1 j2 hC hv => ?_)
      · unfold f_He_ownerOf
        rw [if_neg hl, if_pos hg, show (1024 : Int32) = nI 1024 from rfl, nI_sub hy1, div8_n (by omega), gd_nI (by omega) (by omega), nI_clamp (by omega), w1]
      · have hb := (HX_cells h.1 hH j1 j2).2.2.2.2.1
        have := (nI_eq (by omega) (by omega)).mp hv
        exact (hH.2.2.2.2.1 j j1 j2 (by omega) ((y - 1024) / 8) (by omega) (by omega)).symm
    · refine zero 0 (by omega) (by unfold f_He_ownerOf; rw [if_neg hl, if_neg hg]; rfl) (fun j j1 j2 hC hv => ?_)
      rw [← hv] at hg
      exact absurd (show nI (1032 + 8 * F j) < 3072 from nI_lt (b := 3072) (by have := (HX_cells h.1 hH j1 j2).2.2.2.2.1; omega) (by decide)) hg
/-- the block that is to be freed -/
theorem S_toFree {z B n i N : Nat} {t : Int32} {c0 m0 c m : St} (h : SI z B n i N t c0 m0 c m) {k qs qe : Nat} {F S C W Q : Nat → Nat} (hH : HX z B c m k qs qe F S C W Q) (v1 : Int32) :
    (∃ w, 1 ≤ w ∧ w ≤ k ∧ C w = 2 ∧ v1 = nI (1032 + 8 * F w) ∧ f_Ma_blockToFree B v1 c = some (nI w, c) ∧ f_Mo_inUse v1 m = some (nI w))
    ∨ (∃ c' m', f_Ma_blockToFree B v1 c = some (0, c') ∧ f_Mo_inUse v1 m = some 0 ∧ (∀ J : St → Option St, ((f_Mo_blockAt v1 m).bind fun q12 => (f_Mo_told 7 q12 m).bind J) = J m') ∧ SI z B (n + 1) i N t c0 m0 c' m' ∧ NT B c m c' m') := by
  obtain ⟨w, hw, e1, e2, e3⟩ := bl_beg h hH v1
  by_cases h0 : w = 0
  · subst h0
    right
    obtain ⟨w', _, o1, o2⟩ := bl_at h v1
    obtain ⟨c', m', f1, f2, f3, f4⟩ := S_note h 7 (nI w')
    refine ⟨c', m', ?_, e2, fun J => ?_, f3, f4⟩
    · unfold f_Ma_blockToFree
      rw [e1, Option.bind_some, if_pos (show nI 0 = 0 from rfl), o1, Option.bind_some, f1]; rfl
    · rw [o2, Option.bind_some, f2]; rfl
  · left
    have hk := hH.2.1
    obtain ⟨c1, c2⟩ := e3 h0
    refine ⟨w, by omega, hw, c1, c2, ?_, e2⟩
    unfold f_Ma_blockToFree
    rw [e1, Option.bind_some, if_neg (nI_ne0 (by omega) (by omega))]
theorem o_free {z B n i N P b : Nat} {t : Int32} {c0 m0 c m : St} (h : SI z B n i N t c0 m0 c m) (hX : PX B P b i N 44 c0 m0) :
    ∃ c' m', f_Ma_giveBack B c = some c' ∧ f_Mo_free (nI (600 * b + 3 * i)) m = some m' ∧ SI z B (n + 2) i N t c0 m0 c' m' := by
  obtain ⟨ra, hra⟩ := PX_R hX (j := 0) (by omega) rfl
  obtain ⟨va, sa, oa, na, ea, xa, ya, za, _⟩ := rd_t h hX (by omega) hra (B + 34) (w := 0) rfl (x := nI (600 * b + 3 * i)) rfl
  have h1 := SI_ab h (k := B + 34) (.inl rfl) (v := va) (s := sa) (o := oa)
  have ha0 : (dP c (B + 34) va sa oa).1 (B + 34) 0 = va := dP_0
  have ha1 : (dP c (B + 34) va sa oa).1 (B + 34) 1 = sa := dP_1
  have ha2 : (dP c (B + 34) va sa oa).1 (B + 34) 2 = oa := dP_2' na
  have eC0 : f_Ma_giveBack B c = (f_Ma_reportShade B (B + 34) 2 (dP c (B + 34) va sa oa)).bind fun q3 => if (q3.1 (B + 34) 0) = 0 then some q3 else (f_Ma_blockToFree B (q3.1 (B + 34) 0) q3).bind fun q6 => if q6.1 = 0 then some (q6.2) else (f_Ma_keepBlock B q6.1 (q6.2)).bind fun q10 => some q10 := by
    unfold f_Ma_giveBack
    rw [ea, Option.bind_some]; rfl
  rw [eC0]
  generalize dP c (B + 34) va sa oa = c2 at h1 ha0 ha1 ha2
  obtain ⟨c3, m3, f1, f2, f3, f4⟩ := S_rep h1 (B + 34) 2 ha1 ha2
  have eM : f_Mo_free (nI (600 * b + 3 * i)) m = f_Mo_free_J18 (nI (600 * b + 3 * i)) m3 := by
    unfold f_Mo_free
    rw [ya, za]
    simp only [Option.bind_some]
    exact f2 (fun q => f_Mo_free_J18 (nI (600 * b + 3 * i)) q)
  rw [eM, f1, Option.bind_some, f4.1 (B + 34) (by omega), ha0]
  unfold f_Mo_free_J18
  rw [(NT_rd f4 _).1, xa, Option.bind_some]
  by_cases g0 : va = 0
  · rw [if_pos g0, if_pos g0]; exact ⟨c3, m3, rfl, rfl, SI_mono f3 (by omega)⟩
  rw [if_neg g0, if_neg g0]
  obtain ⟨k, qs, qe, F, S, C, W, Q, hH⟩ := f3.2.2.2.2.2.1
  have hk := hH.2.1
  rcases S_toFree f3 hH va with ⟨w, w1, w2, w3, w4, e1, e2⟩ | ⟨c4, m4, e1, e2, e3, e4, _⟩
  · obtain ⟨c4, m4, r1, r2, r3, _⟩ := S_freed f3 hH w1 w2 w3
    rw [e1, e2, Option.bind_some, Option.bind_some]
    dsimp only
    rw [if_neg (nI_ne0 (by omega) (by omega)), if_neg (nI_ne0 (by omega) (by omega)), r1, r2]
    exact ⟨c4, m4, rfl, rfl, SI_mono r3 (by omega)⟩
  · rw [e1, e2, Option.bind_some, Option.bind_some]
    dsimp only
    rw [if_pos rfl, if_pos rfl, e3 (fun q => some q)]
    exact ⟨c4, m4, rfl, rfl, e4⟩
