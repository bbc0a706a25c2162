/-! ===== texts that are too long ===== -/
theorem and255_nat (x : Int32) : ∃ k, k < 256 ∧ x &&& 255 = nI k := by
  refine ⟨(x.toBitVec &&& 255#32).toNat, ?_, ?_⟩
  · rw [BitVec.toNat_and]
    exact Nat.lt_of_le_of_lt Nat.and_le_right (by decide)
  · apply Int32.toBitVec_inj.mp
    show x.toBitVec &&& 255#32 = BitVec.ofNat 32 (x.toBitVec &&& 255#32).toNat
    rw [BitVec.ofNat_toNat, BitVec.setWidth_eq]
theorem byte10 {y : Int32} (h : y.toInt8.toInt32 = y) : y = 10 ↔ y &&& 255 = 10 := by
  refine ⟨fun e => by rw [e]; decide, fun e => ?_⟩
  have k : y.toInt8 = (y &&& 255).toInt8 := by
    apply Int8.toBitVec_inj.mp
    rw [Int32.toBitVec_toInt8, Int32.toBitVec_toInt8, Int32.toBitVec_and]
    show _ = (y.toBitVec &&& 255#32).signExtend 8
    generalize y.toBitVec = z
    rw [BitVec.signExtend_eq_setWidth_of_le z (by decide : 8 ≤ 32), BitVec.signExtend_eq_setWidth_of_le (z &&& 255#32) (by decide : 8 ≤ 32)]
    apply BitVec.eq_of_getLsbD_eq
    intro i hi
    have t : ∀ i : Fin 8, (255#32).getLsbD i.val = true := by decide
    rw [BitVec.getLsbD_setWidth, BitVec.getLsbD_setWidth, BitVec.getLsbD_and, t ⟨i, hi⟩, Bool.and_true]
  rw [e] at k
  rw [← h, k]; decide
theorem nlc_le {sg : Nat → Nat} : ∀ k, nlc sg k ≤ k
  | 0 => Nat.le_refl _
  | k + 1 => by
    have := nlc_le (sg := sg) k
    show nlc sg k + (if sg k = 10 then 1 else 0) ≤ k + 1
    split <;> omega
section LONG
variable {TL : Nat} {sg : Nat → Nat} {c m : St}
def bgn (sg : Nat → Nat) : Nat → Nat
  | 0 => 0
  | k + 1 => 1 + nlc sg k
theorem as_long (hTL : TL ≤ 4000) (hC : ∀ i, i < TL → c.1 1 i = nI (sg i)) (h256 : ∀ i, sg i < 256) {K : Nat} (hK : K ≤ TL) (hg : ∀ i, i < K → nlc sg i ≤ 199 ∧ i ≠ 3000) :
    (K = TL → f_As_isTooLong (nI TL) c = some (0, c)) ∧ (K < TL → (200 ≤ nlc sg K ∨ K = 3000) → f_As_isTooLong (nI TL) c = some (1, uI (uI (uI c 2 10 5) 2 11 (nI K)) 2 12 (nI (1 + nlc sg K)))) := by
  have st : ∀ i, 0 ≤ i → i < K → f_As_isTooLong_L5 (nI TL) (nI (1 + nlc sg i)) (nI i) c = some (.inl (nI (1 + nlc sg (i + 1)), nI (i + 1))) := by
    intro i _ hi
    obtain ⟨g1, g2⟩ := hg i hi
    have hx := h256 i
    unfold f_As_isTooLong_L5 f_As_isTooLong_J48_1
    rw [if_neg (nI_ge (by omega) (by omega)), if_neg (show ¬ 200 < nI (1 + nlc sg i) from nI_nlt (a := 200) (by omega) (by decide)), if_neg (show ¬ nI i = 3000 from fun h => g2 ((nI_eq (b := 3000) (by omega) (by decide)).mp h)), gd_nI (by omega) (by omega), nI_clamp (by omega), hC i (by omega), nI_1, nI_1]
    by_cases e : sg i = 10
    · rw [if_pos (show nI (sg i) = 10 by rw [e]; rfl)]
      show some (Sum.inl (nI (1 + nlc sg i + 1), _)) = some (Sum.inl (nI (1 + (nlc sg i + (if sg i = 10 then 1 else 0))), _))
      rw [if_pos e, Nat.add_assoc]
    · rw [if_neg (show ¬ nI (sg i) = 10 from ne_l (k := 10) (by omega) (by omega) e)]
      show some (Sum.inl (nI (1 + nlc sg i), _)) = some (Sum.inl (nI (1 + (nlc sg i + (if sg i = 10 then 1 else 0))), _))
      simp only [if_neg e, Nat.add_zero]
  have e0 : ((1 : Int32), (0 : Int32)) = (nI (1 + nlc sg 0), nI 0) := rfl
  have hkk := nlc_le (sg := sg) K
  unfold f_As_isTooLong
  refine ⟨fun h => ?_, fun h hb => ?_⟩
  · subst h
    have en : f_As_isTooLong_L5 (nI K) (nI (1 + nlc sg K)) (nI K) c = some (.inr (.inl (nI (1 + nlc sg K), nI K))) := by
      unfold f_As_isTooLong_L5
      rw [if_pos (nI_le (Nat.le_refl _) (by omega))]
    rw [e0, wh_cnt (f := fun a : (Int32 × Int32) => f_As_isTooLong_L5 (nI K) a.1 a.2 c) (g := fun i => (nI (1 + nlc sg i), nI i)) (r := K) K 0 (by omega) st en]
    rfl
  · have en : f_As_isTooLong_L5 (nI TL) (nI (1 + nlc sg K)) (nI K) c = some (.inr (.inr (1, uI (uI (uI c 2 10 5) 2 11 (nI K)) 2 12 (nI (1 + nlc sg K))))) := by
      unfold f_As_isTooLong_L5 f_As_isTooLong_J26_1 f_As_refuse
      rw [if_neg (nI_ge (by omega) (by omega)), lt_eq, lt_eq, lt_eq, Option.bind_some]
      by_cases h2 : 200 ≤ nlc sg K
      · rw [if_pos (show 200 < nI (1 + nlc sg K) from nI_lt (a := 200) (by omega) (by omega))]
      · rw [if_neg (show ¬ 200 < nI (1 + nlc sg K) from nI_nlt (a := 200) (by omega) (by decide)), if_pos (show nI K = 3000 by rw [hb.resolve_left h2]; rfl)]
    rw [e0, wh_cnt (f := fun a : (Int32 × Int32) => f_As_isTooLong_L5 (nI TL) a.1 a.2 c) (g := fun i => (nI (1 + nlc sg i), nI i)) (r := K) K 0 (by omega) st en]
    rfl
theorem mo_long (hTL : TL ≤ 4000) (h1 : m.1 0 1 = nI TL) (hM : ∀ i, i < TL → (m.1 1 i = 10 ↔ sg i = 10)) {K : Nat} (hK : K ≤ TL) (hg : ∀ i, i < K → nlc sg i ≤ 199 ∧ i ≠ 3000) :
    (K = TL → f_Mo_tooMuch m = some (-1)) ∧ (K < TL → (200 ≤ nlc sg K ∨ K = 3000) → f_Mo_tooMuch m = some (nI K)) := by
  have K3 : K ≤ 3000 := Classical.byContradiction fun h => (hg 3000 (by omega)).2 rfl
  have step : ∀ i, i < TL → i < 3000 → f_Mo_tooMuch_L4 (nI (bgn sg i)) (nI i) m = if i ≠ 0 ∧ sg (i - 1) = 10 ∧ nlc sg i = 200 then some (.inr (.inr (nI i))) else some (.inl (nI (bgn sg (i + 1)), nI (i + 1))) := by
    intro i hi h3
    have hle := nlc_le (sg := sg) i
    unfold f_Mo_tooMuch_L4 f_Mo_tooMuch_J36_1 f_Mo_tooMuch_J41_1 f_Mo_tooMuch_J52_1 f_Mo_tooMuch_J67_1
    rw [h1, if_neg (nI_ge (by omega) (by omega)), if_neg (show ¬ 3000 ≤ nI i from nI_ge (b := 3000) h3 (by decide))]
    simp only [lt_eq, nI_1, if_neg (show ¬ (1 : Int32) = 0 by decide)]
    by_cases i0 : i = 0
    · subst i0
      rw [if_pos (show nI 0 = 0 from rfl), if_neg (show ¬ nI (bgn sg 0 + 1) = 201 by show ¬ nI 1 = 201; decide), if_neg (show ¬ ((0 : Nat) ≠ 0 ∧ sg (0 - 1) = 10 ∧ nlc sg 0 = 200) from fun h => h.1 rfl)]
      rfl
    · have hs : nI i - 1 = nI (i - 1) := by rw [show (1 : Int32) = nI 1 from rfl, nI_sub (by omega)]
      have hb1 : bgn sg i = 1 + nlc sg (i - 1) := by
        obtain ⟨k, rfl⟩ : ∃ k, i = k + 1 := ⟨i - 1, by omega⟩
        rfl
      have hn : nlc sg i = nlc sg (i - 1) + (if sg (i - 1) = 10 then 1 else 0) := by
        obtain ⟨k, rfl⟩ : ∃ k, i = k + 1 := ⟨i - 1, by omega⟩
        rfl
      rw [if_neg (nI_ne0 (by omega) (by omega)), hs, gd_nI (by omega) (by omega), nI_clamp (by omega)]
      by_cases e : sg (i - 1) = 10
      · rw [if_pos ((hM (i - 1) (by omega)).mpr e)]
        rw [if_pos e] at hn
        have hbb : bgn sg i + 1 = 1 + nlc sg i := by omega
        have hb2 : bgn sg (i + 1) = 1 + nlc sg i := rfl
        rw [hbb, hb2]
        by_cases h200 : nlc sg i = 200
        · rw [if_pos (show nI (1 + nlc sg i) = 201 by rw [h200]; rfl), if_pos ⟨i0, e, h200⟩]
        · rw [if_neg (show ¬ nI (1 + nlc sg i) = 201 from fun h => h200 (by have := (nI_eq (b := 201) (by omega) (by decide)).mp h; omega)), if_neg (fun h => h200 h.2.2)]
      · rw [if_neg e, Nat.add_zero] at hn
        have hb2 : bgn sg (i + 1) = 1 + nlc sg i := rfl
        rw [if_neg (fun h => e ((hM (i - 1) (by omega)).mp h)), if_neg (show ¬ (i ≠ 0 ∧ sg (i - 1) = 10 ∧ nlc sg i = 200) from fun h => e h.2.1)]
        simp only [if_true, Int32.add_zero]
        rw [hb1, hb2, hn]
  have st : ∀ i, 0 ≤ i → i < K → f_Mo_tooMuch_L4 (nI (bgn sg i)) (nI i) m = some (.inl (nI (bgn sg (i + 1)), nI (i + 1))) := by
    intro i _ hi
    obtain ⟨g1, g2⟩ := hg i hi
    rw [step i (by omega) (by omega), if_neg (fun h => by omega)]
  have e0 : ((0 : Int32), (0 : Int32)) = (nI (bgn sg 0), nI 0) := rfl
  unfold f_Mo_tooMuch
  refine ⟨fun h => ?_, fun h hb => ?_⟩
  · subst h
    have en : f_Mo_tooMuch_L4 (nI (bgn sg K)) (nI K) m = some (.inr (.inl (nI (bgn sg K), nI K))) := by
      unfold f_Mo_tooMuch_L4
      rw [h1, if_pos (nI_le (Nat.le_refl _) (by omega))]
    rw [e0, wh_cnt (f := fun a : (Int32 × Int32) => f_Mo_tooMuch_L4 a.1 a.2 m) (g := fun i => (nI (bgn sg i), nI i)) (r := K) K 0 (by omega) st en]
    show (if m.1 0 1 ≤ 3000 then some (-1) else some 3000) = _
    rw [h1, if_pos (show nI K ≤ 3000 from nI_le (b := 3000) K3 (by decide))]
  · by_cases h3 : K = 3000
    · have en : f_Mo_tooMuch_L4 (nI (bgn sg K)) (nI K) m = some (.inr (.inl (nI (bgn sg K), nI K))) := by
        unfold f_Mo_tooMuch_L4
        rw [h1, if_neg (nI_ge (by omega) (by omega)), if_pos (show 3000 ≤ nI K by rw [h3]; decide)]
      rw [e0, wh_cnt (f := fun a : (Int32 × Int32) => f_Mo_tooMuch_L4 a.1 a.2 m) (g := fun i => (nI (bgn sg i), nI i)) (r := K) K 0 (by omega) st en]
      show (if m.1 0 1 ≤ 3000 then some (-1) else some 3000) = _
      rw [h1, if_neg (show ¬ nI TL ≤ 3000 from nI_ge (a := 3000) (by omega) (by omega)), h3]
      rfl
    · have hK0 : K ≠ 0 := fun h0 => by
        rw [h0] at hb
        rcases hb with hb | hb
        · have : nlc sg 0 = 0 := rfl
          omega
        · omega
      have hn : nlc sg K = nlc sg (K - 1) + (if sg (K - 1) = 10 then 1 else 0) := by
        obtain ⟨k, rfl⟩ : ∃ k, K = k + 1 := ⟨K - 1, by omega⟩
        rfl
      have hp := (hg (K - 1) (by omega)).1
      have h200 := hb.resolve_right h3
      have hs10 : sg (K - 1) = 10 := Classical.byContradiction fun e => by rw [if_neg e] at hn; omega
      rw [if_pos hs10] at hn
      have en : f_Mo_tooMuch_L4 (nI (bgn sg K)) (nI K) m = some (.inr (.inr (nI K))) := by
        rw [step K h (by omega), if_pos ⟨hK0, hs10, by omega⟩]
      rw [e0, wh_cnt (f := fun a : (Int32 × Int32) => f_Mo_tooMuch_L4 a.1 a.2 m) (g := fun i => (nI (bgn sg i), nI i)) (r := K) K 0 (by omega) st en]
      rfl
/-- the line of a place -/
theorem mo_lineOf (hM : ∀ i, i < TL → (m.1 1 i = 10 ↔ sg i = 10)) (hTL : TL ≤ 4000) {K : Nat} (hK : K ≤ TL) (h23 : m.1 0 23 = 1) : wh (fun a : (Int32 × St) => f_Mo_assemble_L31 (nI K) a.1 a.2) (0, m) = some (nI K, uI m 0 23 (nI (1 + nlc sg K))) := by
  have st : ∀ i, 0 ≤ i → i < K → f_Mo_assemble_L31 (nI K) (nI i) (uI m 0 23 (nI (1 + nlc sg i))) = some (.inl (nI (i + 1), uI m 0 23 (nI (1 + nlc sg (i + 1))))) := by
    intro i _ hi
    unfold f_Mo_assemble_L31 f_Mo_assemble_J57_1
    rw [if_neg (nI_ge hi (by omega)), gd_nI (by omega) (by omega), nI_clamp (by omega), uI_n (by omega), uI_v, lt_eq, lt_eq, nI_1, uI_uI, uI_uI, nI_1, Int32.add_zero]
    by_cases e : sg i = 10
    · rw [if_pos ((hM i (by omega)).mpr e)]
      show some (Sum.inl (_, uI m 0 23 (nI (1 + nlc sg i + 1)))) = some (Sum.inl (_, uI m 0 23 (nI (1 + (nlc sg i + (if sg i = 10 then 1 else 0))))))
      rw [if_pos e, Nat.add_assoc]
    · rw [if_neg (fun h => e ((hM i (by omega)).mp h))]
      show some (Sum.inl (_, uI m 0 23 (nI (1 + nlc sg i)))) = some (Sum.inl (_, uI m 0 23 (nI (1 + (nlc sg i + (if sg i = 10 then 1 else 0))))))
      simp only [if_neg e, Nat.add_zero]
  have en : f_Mo_assemble_L31 (nI K) (nI K) (uI m 0 23 (nI (1 + nlc sg K))) = some (.inr (nI K, uI m 0 23 (nI (1 + nlc sg K)))) := by
    unfold f_Mo_assemble_L31
    rw [if_pos (nI_le (Nat.le_refl _) (by omega))]
  have e0 : ((0 : Int32), m) = (nI 0, uI m 0 23 (nI (1 + nlc sg 0))) := by rw [uI_same (show m.1 0 23 = nI (1 + nlc sg 0) from h23)]; rfl
  rw [e0]
  exact wh_cnt (f := fun a : (Int32 × St) => f_Mo_assemble_L31 (nI K) a.1 a.2) (g := fun i => (nI i, uI m 0 23 (nI (1 + nlc sg i)))) (r := K) K 0 (by omega) st en
/-- the text taken off the tape -/
theorem mo_copy (h3 : TL ≤ 3000) (h03 : m.1 0 3 = nI TL) : ∃ m', wh (fun a : (Int32 × St) => f_Mo_assemble_L96 a.1 a.2) (0, m) = some (nI TL, m') ∧ (∀ k, k ≠ 2 → m'.1 k = m.1 k) ∧ m'.2 = m.2 ∧ ∀ i, i < TL → m'.1 2 i = (m.1 1 i).toInt8.toInt32 := by
  have hw := wh_it (L := fun a : (Int32 × St) => f_Mo_assemble_L96 a.1 a.2) (f := fun u x => uI u 2 x ((m.1 1 x).toInt8.toInt32)) (s := m) (a := 0) 0 TL (fun u => ∀ k, k ≠ 2 → u.1 k = m.1 k) (fun _ _ => rfl)
    (fun u i hi hu => ⟨by
      rw [Nat.zero_add]
      show f_Mo_assemble_L96 (nI i) u = _
      unfold f_Mo_assemble_L96
      rw [hu 0 (by omega), h03, if_neg (nI_ge hi (by omega)), gd_nI (by omega) (by omega), gd_nI (by omega) (by omega), nI_clamp (by omega), hu 1 (by omega), nar_byte, lt_eq, nI_1], fun k hk => by
      show (uI u 2 (0 + i) _).1 k = _
      rw [uI_n hk]; exact hu k hk⟩)
    (fun u hu => by
      show f_Mo_assemble_L96 (nI (0 + TL)) u = _
      unfold f_Mo_assemble_L96
      rw [hu 0 (by omega), h03, if_pos (nI_le (by omega) (by omega))])
  obtain ⟨h1, h2⟩ := hw
  rw [nI_0, Nat.zero_add] at h1
  refine ⟨_, h1, h2, it1_2 TL, fun i hi => ?_⟩
  rw [it1_1 (K := 2) (g := fun x => (m.1 1 x).toInt8.toInt32), if_pos (by omega)]
end LONG
