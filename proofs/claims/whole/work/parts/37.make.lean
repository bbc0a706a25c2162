/-! ===== a block made ===== -/
theorem um_n {z : Nat} {m : St} {a q : Nat} {o : Int32} (h : q < 16 ∨ (19 < q ∧ q ≠ 24)) : (um z m a o).1 q = m.1 q := by
  unfold um; rw [uI_n (by omega), uI_n (by omega), uI_n (by omega), uI_n (by omega), uI_n (by omega)]
theorem ub_n {B : Nat} {c : St} {a q : Nat} {o : Int32} (h : q < B + 1 ∨ B + 5 < q) : (ub B c a o).1 q = c.1 q := by
  unfold ub; rw [pB_n (by omega), uI_n (by omega), uI_n (by omega)]
theorem mo_blkNone {z B : Nat} {c0 m0 c m : St} (h : RB z B c0 m0 c m) {k qs qe : Nat} {F S C W Q : Nat → Nat} (hH : HX z B c m k qs qe F S C W Q) {sz f : Nat} (hs : sz ≤ 512) (hf : f + (2 + (sz + 7) / 8) ≤ 256) (hn : ¬ frU W (2 + (sz + 7) / 8) f) : f_Mo_blockOf_L31 (nI sz) (nI (1032 + 8 * f)) m = some (.inl (nI (1032 + 8 * (f + 1)))) := by
  have a3 : f_Mo_up8 (nI (1032 + 8 * f) + nI sz) + 8 = nI (1024 + 8 * (f + (2 + (sz + 7) / 8))) := by
    rw [nI_add, up8_n (by omega), show (8 : Int32) = nI 8 from rfl, nI_add]; congr 1; omega
  have hq : ∃ q, wh (fun a : Int32 × Int32 => f_Mo_blockOf_L59_2 (nI sz) (nI (1032 + 8 * f)) a.1 a.2 m) (1, nI (101 * z + 1)) = some (0, q) := by
    rcases mo_fits h hH hs hf k 1 (by omega) (by omega) with ⟨q, q1, q2⟩ | ⟨q, q1, q2⟩
    · exact ⟨q, q1⟩
    · exact absurd ((ft_fr hH (by omega) hf).mpr q2) hn
  obtain ⟨q, q1⟩ := hq
  unfold f_Mo_blockOf_L31
  rw [a3, if_neg (show ¬ 3072 < nI (1024 + 8 * (f + (2 + (sz + 7) / 8))) from nI_nlt (a := 3072) (by omega) (by omega)), lt_eq, RB_z h, show (101 * nI z + 1 : Int32) = nI (101 * z + 1) from ix101 z 1, q1, Option.bind_some, if_pos rfl, show (8 : Int32) = nI 8 from rfl, nI_add]
  rfl
theorem mo_blkSome {z B : Nat} {c0 m0 c m : St} (h : RB z B c0 m0 c m) {k qs qe : Nat} {F S C W Q : Nat → Nat} (hH : HX z B c m k qs qe F S C W Q) (hk : k < 100) {sz f i : Nat} (hi : m.1 0 69 = nI i) (hs : sz ≤ 512) (hf : f + (2 + (sz + 7) / 8) ≤ 256) (hn : frU W (2 + (sz + 7) / 8) f) :
    f_Mo_blockOf_L31 (nI sz) (nI (1032 + 8 * f)) m = some (.inr (.inr (nI (k + 1), itN (fun t x => um z t x (8 + nI (k + 1))) (nbM z m (k + 1) (nI (1032 + 8 * f)) (nI sz) (nI i)) (1032 + 8 * f) sz))) := by
  have hz := RB_zb h
  have hk34 : m.1 34 z = nI k := (RB_eq h (show phi z 6 5 = some (34, z) from rfl)).symm.trans hH.1
  have a3 : f_Mo_up8 (nI (1032 + 8 * f) + nI sz) + 8 = nI (1024 + 8 * (f + (2 + (sz + 7) / 8))) := by
    rw [nI_add, up8_n (by omega), show (8 : Int32) = nI 8 from rfl, nI_add]; congr 1; omega
  have hq : ∃ q, wh (fun a : Int32 × Int32 => f_Mo_blockOf_L59_2 (nI sz) (nI (1032 + 8 * f)) a.1 a.2 m) (1, nI (101 * z + 1)) = some (1, q) := by
    rcases mo_fits h hH hs hf k 1 (by omega) (by omega) with ⟨q, q1, q2⟩ | ⟨q, q1, q2⟩
    · exact absurd ((ft_fr hH (by omega) hf).mp hn) q2
    · exact ⟨q, q1⟩
  obtain ⟨q, q1⟩ := hq
  have gz2 : ∀ {β : Type} (q : Option β), gd (nI z) 2 q = q := fun q => gd_nI hz (by omega)
  have kz : (nI z).toNatClampNeg = z := nI_clamp (by omega)
  have g2 : ∀ {β : Type} (q : Option β), gd (nI (101 * z + (k + 1))) 202 q = q := fun q => gd_nI (by omega) (by omega)
  have k2 : (nI (101 * z + (k + 1))).toNatClampNeg = 101 * z + (k + 1) := nI_clamp (by omega)
  have hw := wh_it (L := fun q : Int32 × St => f_Mo_blockOf_L242_2 (nI sz) (nI (1032 + 8 * f)) q.1 q.2) (f := fun t x => um z t x (8 + nI (k + 1))) (s := nbM z m (k + 1) (nI (1032 + 8 * f)) (nI sz) (nI i)) (a := 1032 + 8 * f) 0 sz (fun t => t.1 0 28 = nI z ∧ t.1 34 z = nI (k + 1))
    ⟨by rw [nbM_n (by omega)]; exact RB_z h, by unfold nbM; rw [uI_n (by omega), uI_n (by omega), uI_n (by omega), uI_n (by omega), uI_n (by omega), uI_v]⟩
    (fun t j hj ht => ⟨by
      dsimp only
      unfold f_Mo_blockOf_L242_2
      rw [Nat.zero_add, if_neg (nI_ge hj (by omega)), ht.1, gz2, kz, ht.2, nI_add, mo_unset ht.1 hz (by omega), Option.bind_some, nI_1], by rw [um_n (by omega), um_n (by omega)]; exact ht⟩)
    (fun t _ => by
      dsimp only
      unfold f_Mo_blockOf_L242_2
      rw [Nat.zero_add, if_pos (nI_le (Nat.le_refl _) (by omega))])
  obtain ⟨hw1, hw2, hw3⟩ := hw
  unfold f_Mo_blockOf_L31
  rw [a3, if_neg (show ¬ 3072 < nI (1024 + 8 * (f + (2 + (sz + 7) / 8))) from nI_nlt (a := 3072) (by omega) (by omega)), lt_eq, RB_z h, show (101 * nI z + 1 : Int32) = nI (101 * z + 1) from ix101 z 1, q1, Option.bind_some, if_neg (show ¬ ((1, q) : Int32 × Int32).1 = 0 from (by decide : ¬ (1 : Int32) = 0)), gz2, gz2, kz, hk34, nI_1, lt_eq, uI_n (show (0 : Nat) ≠ 34 by omega), RB_z h, gz2, kz, uI_v, ix101, lt_eq, g2, k2, lt_eq, g2, lt_eq, g2, lt_eq, g2, lt_eq, g2, lt_eq]
  rw [uI_n (show (0 : Nat) ≠ 30 by omega), uI_n (show (0 : Nat) ≠ 29 by omega), uI_n (show (0 : Nat) ≠ 28 by omega), uI_n (show (0 : Nat) ≠ 34 by omega), hi]
  show (wh _ (0, nbM z m (k + 1) (nI (1032 + 8 * f)) (nI sz) (nI i))).bind _ = _
  rw [← nI_0, hw1, Option.bind_some]
  dsimp only
  rw [hw2, gz2, kz, hw3]
theorem he_makeC {B : Nat} {c : St} {k f s : Nat} {i : Int32} (hk : k < 100) (hs : s ≤ 512) (hf : f + (2 + (s + 7) / 8) ≤ 256) (h6 : c.1 (B + 6) 5 = nI k) (hff : f_He_firstFree B (nI (2 + (s + 7) / 8)) c = some (nI f)) :
    f_He_make B (nI s) i c = some (nI (k + 1), itN (owC B (nI (k + 1))) (nbC B c (k + 1) (nI (1032 + 8 * f)) (nI s) i) f (2 + (s + 7) / 8)) := by
  have ea : (1024 : Int32) + 8 * (nI f + 1) = nI (1032 + 8 * f) := by
    rw [nI_1, show (8 : Int32) = nI 8 from rfl, nI_mul, show (1024 : Int32) = nI 1024 from rfl, nI_add]; congr 1; omega
  have g1 : ∀ {β : Type} (q : Option β), gd (nI (k + 1)) 101 q = q := fun q => gd_nI (by omega) (by omega)
  have k1 : (nI (k + 1)).toNatClampNeg = k + 1 := nI_clamp (by omega)
  unfold f_He_make
  rw [if_neg (nI_pos (by omega)), if_neg (show ¬ 512 < nI s from nI_nlt (a := 512) hs (by omega)), h6, if_pos (show nI k < 100 from nI_lt (b := 100) hk (by decide)), units_n hs, hff, Option.bind_some, if_neg (nI_nm1 (by omega)), nI_1, lt_eq, uI_v, g1, k1, ea, lt_eq]
  rw [uI_n (show B + 6 ≠ B + 7 by omega), uI_v, g1, k1, lt_eq, uI_n (show B + 6 ≠ B + 8 by omega), uI_n (show B + 6 ≠ B + 7 by omega), uI_v, g1, k1, lt_eq, uI_n (show B + 6 ≠ B + 9 by omega), uI_n (show B + 6 ≠ B + 8 by omega), uI_n (show B + 6 ≠ B + 7 by omega), uI_v, g1, k1, lt_eq, uI_n (show B + 6 ≠ B + 10 by omega), uI_n (show B + 6 ≠ B + 9 by omega), uI_n (show B + 6 ≠ B + 8 by omega), uI_n (show B + 6 ≠ B + 7 by omega), uI_v, g1, k1, lt_eq]
  show (f_He_own B ((nbC B c (k + 1) (nI (1032 + 8 * f)) (nI s) i).1 (B + 6) 5) ((nbC B c (k + 1) (nI (1032 + 8 * f)) (nI s) i).1 (B + 6) 5) (nbC B c (k + 1) (nI (1032 + 8 * f)) (nI s) i)).bind _ = _
  have e5 : (nbC B c (k + 1) (nI (1032 + 8 * f)) (nI s) i).1 (B + 6) 5 = nI (k + 1) := by
    unfold nbC; rw [uI_n (by omega), uI_n (by omega), uI_n (by omega), uI_n (by omega), uI_n (by omega), uI_v]
  have e7 : (nbC B c (k + 1) (nI (1032 + 8 * f)) (nI s) i).1 (B + 7) (k + 1) = nI (1032 + 8 * f) := by
    unfold nbC; rw [uI_n (by omega), uI_n (by omega), uI_n (by omega), uI_n (by omega), uI_v]
  have e8 : (nbC B c (k + 1) (nI (1032 + 8 * f)) (nI s) i).1 (B + 8) (k + 1) = nI s := by
    unfold nbC; rw [uI_n (by omega), uI_n (by omega), uI_n (by omega), uI_v]
  rw [e5, he_own (by omega) e7 e8 hs hf, Option.bind_some, ow_at, if_neg (by omega), e5]
/-- a block made on both sides, its bytes not yet touched in the bench -/
theorem S_make {z B n i N : Nat} {t : Int32} {c0 m0 c m : St} (h : SI z B n i N t c0 m0 c m) {k qs qe : Nat} {F S C W Q : Nat → Nat} (hH : HX z B c m k qs qe F S C W Q) (v1 : Int32) :
    (f_He_make B v1 (c.1 B 9) c = some (0, c) ∧ f_Mo_blockOf v1 m = some (0, m))
    ∨ (∃ s f c' m', k < 100 ∧ s ≤ 512 ∧ v1 = nI s ∧ f + (2 + (s + 7) / 8) ≤ 256 ∧ f_He_make B v1 (c.1 B 9) c = some (nI (k + 1), c') ∧ f_Mo_blockOf v1 m = some (nI (k + 1), itN (fun t x => um z t x (8 + nI (k + 1))) m' (1032 + 8 * f) s)
      ∧ SI z B n i N t c0 m0 c' m' ∧ HX z B c' m' (k + 1) qs qe (fun j => if j = k + 1 then f else F j) (fun j => if j = k + 1 then s else S j) (fun j => if j = k + 1 then 2 else C j) (fun u => if f ≤ u ∧ u < f + (2 + (s + 7) / 8) then k + 1 else W u) Q
      ∧ frU W (2 + (s + 7) / 8) f ∧ (∀ q, q < B + 6 ∨ B + 14 ≤ q → c'.1 q = c.1 q) ∧ (∀ q, q < 28 ∨ q = 33 ∨ 34 < q → m'.1 q = m.1 q)) := by
  have hz := RB_zb h.1
  have hk := hH.2.1
  have hk34 : m.1 34 z = nI k := (RB_eq h.1 (show phi z 6 5 = some (34, z) from rfl)).symm.trans hH.1
  have gz2 : ∀ {β : Type} (q : Option β), gd (nI z) 2 q = q := fun q => gd_nI hz (by omega)
  have kz : (nI z).toNatClampNeg = z := nI_clamp (by omega)
  by_cases n1 : v1 < 0
  · left; unfold f_He_make f_Mo_blockOf; rw [if_pos n1, if_pos n1]; exact ⟨rfl, rfl⟩
  by_cases n2 : 512 < v1
  · left; unfold f_He_make f_Mo_blockOf; rw [if_neg n1, if_neg n1, if_pos n2, if_pos n2]; exact ⟨rfl, rfl⟩
  obtain ⟨s, hs, rfl⟩ : ∃ s, s ≤ 512 ∧ v1 = nI s := nI_rngL (n := 512) (by decide) (Int32.not_lt.mp n1) (Int32.not_lt.mp n2)
  by_cases n3 : k = 100
  · left; unfold f_He_make f_Mo_blockOf
    rw [if_neg n1, if_neg n1, if_neg n2, if_neg n2, hH.1, RB_z h.1, gz2, kz, hk34, n3, if_neg (by decide), if_pos (by decide)]; exact ⟨rfl, rfl⟩
  have hk2 : k < 100 := by omega
  have eM : f_Mo_blockOf (nI s) m = (wh (fun a : Int32 => f_Mo_blockOf_L31 (nI s) a m) (nI (1032 + 8 * 0))).bind (Sum.elim (fun b24 => some (0, m)) some) := by
    unfold f_Mo_blockOf
    rw [if_neg n1, if_neg n2, RB_z h.1, gz2, kz, hk34, if_neg (show ¬ nI k = 100 from ne_l (k := 100) (by omega) (by omega) n3)]
    rfl
  have hWc : ∀ u, u < 256 → c.1 (B + 12) u = nI (W u) ∧ W u ≤ 100 := fun u hu => ⟨(hH.2.2.2.1 u hu).1, by have := (hH.2.2.2.1 u hu).2.1; omega⟩
  rcases he_firstFree (B := B) (c := c) (W := W) (U := 2 + (s + 7) / 8) (by omega) (by omega) hWc with ⟨f1, f2⟩ | ⟨f, f1, f2, f3, f4⟩
  · left
    constructor
    · unfold f_He_make
      rw [if_neg n1, if_neg n2, hH.1, if_pos (show nI k < 100 from nI_lt (b := 100) hk2 (by decide)), units_n hs, f2, Option.bind_some, if_pos rfl]
    · rw [eM, wh_gen (g := fun f => nI (1032 + 8 * f)) (256 - (2 + (s + 7) / 8) + 1) (fun f hf => mo_blkNone h.1 hH hs (by omega) (f1 f (by omega)))]
      rw [wh_inr (b := .inl (nI (1032 + 8 * (256 - (2 + (s + 7) / 8) + 1)))) (by
        unfold f_Mo_blockOf_L31
        rw [nI_add, up8_n (by omega), show (8 : Int32) = nI 8 from rfl, nI_add, if_pos (show 3072 < nI (8 * ((1032 + 8 * (256 - (2 + (s + 7) / 8) + 1) + s + 7) / 8) + 8) from nI_lt (a := 3072) (by omega) (by omega))])]
      rfl
  · right
    have hHn := HX_new (z := z) hH hk2 (i := nI i) hs f1 f2
    refine ⟨s, f, _, _, hk2, hs, rfl, f1, ?_, ?_, ?_, hHn, f2, fun q hq => ?_, fun q hq => nbM_n hq⟩
    · rw [he_makeC hk2 hs f1 hH.1 f4, SI_9 h]
    · rw [eM, wh_gen (g := fun f => nI (1032 + 8 * f)) f (fun f' hf' => mo_blkNone h.1 hH hs (by omega) (f3 f' hf')), wh_inr (b := .inr _) (mo_blkSome h.1 hH hk2 (SI_69 h) hs f1 f2)]
      rfl
    · refine SI_heap h (RB_ow (RB_nb h.1 (by omega) _ _ _) _) (fun q hq => ?_) (nbM_n (by omega)) (nbM_n (by omega)) ⟨_, _, _, _, _, _, _, _, hHn⟩
      funext j; rw [ow_at, if_neg (by omega), nbC_n (by omega)]
    · funext j; rw [ow_at, if_neg (by omega), nbC_n (by omega)]
