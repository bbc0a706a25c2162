/-! ===== numbers ===== -/
def SF (c c' : St) : Prop := (∀ k, k ≠ 3 → c'.1 k = c.1 k) ∧ (∀ k, k ≠ 3 → c'.2.1 k = c.2.1 k) ∧ c'.2.2 = c.2.2 ∧ c'.1 3 2 = c.1 3 2
def MF (m m' : St) : Prop := (∀ k, k ≠ 0 → m'.1 k = m.1 k) ∧ (∀ j, j < 24 ∨ 27 < j → m'.1 0 j = m.1 0 j) ∧ m'.2 = m.2
theorem SF_rf {c : St} : SF c c := ⟨fun _ _ => rfl, fun _ _ => rfl, rfl, rfl⟩
theorem MF_rf {m : St} : MF m m := ⟨fun _ _ => rfl, fun _ _ => rfl, rfl⟩
theorem SF_tr {a b c : St} (h : SF a b) (g : SF b c) : SF a c := ⟨fun k hk => (g.1 k hk).trans (h.1 k hk), fun k hk => (g.2.1 k hk).trans (h.2.1 k hk), g.2.2.1.trans h.2.2.1, g.2.2.2.trans h.2.2.2⟩
theorem MF_tr {a b c : St} (h : MF a b) (g : MF b c) : MF a c := ⟨fun k hk => (g.1 k hk).trans (h.1 k hk), fun k hk => (g.2.1 k hk).trans (h.2.1 k hk), g.2.2.trans h.2.2⟩
theorem SF_u {c c' : St} {j : Nat} {v : Int32} (h : SF c c') (hj : j ≠ 2) : SF c (uI c' 3 j v) := ⟨fun k hk => by rw [uI_n hk]; exact h.1 k hk, h.2.1, h.2.2.1, by rw [uI_o (by omega)]; exact h.2.2.2⟩
theorem SF_J {c c' : St} {v : Int64} (h : SF c c') : SF c (uJ c' 3 5 v) := ⟨h.1, fun k hk => by rw [uJ_n hk]; exact h.2.1 k hk, h.2.2.1, h.2.2.2⟩
theorem MF_u {m m' : St} {j : Nat} {v : Int32} (h : MF m m') (h1 : 24 ≤ j) (h2 : j ≤ 27) : MF m (uI m' 0 j v) := ⟨fun k hk => by rw [uI_n hk]; exact h.1 k hk, fun i hi => by rw [uI_o (by omega)]; exact h.2.1 i hi, h.2.2⟩
theorem TXC_S {L : Nat} {sg : Nat → Nat} {c c' : St} (h : TXC L sg c) (hS : SF c c') : TXC L sg c' := TXC_of h (hS.1 1 (by omega))
theorem TXM_M {L : Nat} {sg : Nat → Nat} {m m' : St} (h : TXM L sg m) (hM : MF m m') : TXM L sg m' := TXM_of h (hM.2.1 3 (by omega)) (hM.1 2 (by omega))
def dcv (sg : Nat → Nat) (f : Nat) : Nat → Nat
  | 0 => 0
  | k + 1 => dcv sg f k * 10 + (sg (f + k) - 48)
def hv (sg : Nat → Nat) (f : Nat) : Nat → Nat
  | 0 => 0
  | k + 1 => hv sg f k * 16 + hxv (sg (f + k))
theorem dcv_lt {sg : Nat → Nat} {f : Nat} : ∀ k, (∀ i, i < k → dgt (sg (f + i))) → dcv sg f k < 10 ^ k
  | 0, _ => Nat.zero_lt_one
  | k + 1, h => by
    have h1 := dcv_lt k (fun i hi => h i (by omega))
    have h2 := h k (by omega)
    unfold dgt at h2
    show dcv sg f k * 10 + (sg (f + k) - 48) < 10 ^ (k + 1)
    rw [Nat.pow_succ]
    omega
theorem dcv_lt10 {sg : Nat → Nat} {f k : Nat} (hk : k ≤ 10) (h : ∀ i, i < k → dgt (sg (f + i))) : dcv sg f k < 2 ^ 62 :=
  Nat.lt_of_lt_of_le (dcv_lt k h) (Nat.le_trans (Nat.pow_le_pow_right (by decide) hk) (by decide))
theorem lN_int {D : Nat} (h : D < 2 ^ 63) : (lN D).toInt = D := lg_ofNat_toInt h
theorem lN_nint {D : Nat} (h : D < 2 ^ 62) : (-lN D).toInt = -(D : Int) := by
  rw [Int64.toInt_neg, lN_int (by omega), Int.bmod_eq_of_le (by omega) (by omega)]
theorem lN_nneg {D : Nat} (h : D < 2 ^ 62) : ¬ lN D < -2147483648 := by
  rw [Int64.lt_iff_toInt_lt, lN_int (by omega), show (-2147483648 : Int64).toInt = -2147483648 by decide]; omega
theorem lN_negA {D : Nat} (h : D < 2 ^ 62) : (-lN D < -2147483648) ↔ (2147483648 < lN D) := by
  rw [Int64.lt_iff_toInt_lt, Int64.lt_iff_toInt_lt, lN_nint h, lN_int (by omega), show (-2147483648 : Int64).toInt = -2147483648 by decide, show (2147483648 : Int64).toInt = 2147483648 by decide]; omega
theorem lN_negB {D : Nat} (h : D < 2 ^ 62) : ¬ 4294967295 < -lN D := by
  rw [Int64.lt_iff_toInt_lt, lN_nint h, show (4294967295 : Int64).toInt = 4294967295 by decide]; omega
/-- what may stand behind a number -/
def pt (x : Nat) : Prop := ¬ (ltr x ∨ dgt x) ∧ (x < 65 ∨ 90 < x)
theorem pt10 : pt 10 := by unfold pt ltr dgt; omega
theorem sc_J71 {L : Nat} {sg : Nat → Nat} {c : St} {e r : Nat} (hC : TXC L sg c) (he : e ≤ L) (h2 : c.1 3 2 = nI e) (hr : c.2.2 3 = 1) (h1 : c.1 3 1 = nI r) (hre : r ≤ e) (hse : sg e = 10) (h256 : ∀ i, sg i < 256) (v : Int32) : ((v ≠ 0 ∧ pt (sg r)) → f_Sc_readNumber_J71 v c = some (uI c 3 3 2)) ∧ (¬ (v ≠ 0 ∧ pt (sg r)) → f_Sc_readNumber_J71 v c = some (uI c 3 3 5)) := by
  have hL := hC.1
  have key : (pt (sg r) → f_Sc_readNumber_J71 v c = f_Sc_readNumber_J110 v c) ∧ (¬ pt (sg r) → f_Sc_readNumber_J71 v c = f_Sc_readNumber_J106 v c) := by
    unfold f_Sc_readNumber_J71
    rw [h1, sc_byte hC he h2 hr (by omega), Option.bind_some]
    unfold bya
    by_cases hl : r < e
    · rw [if_pos hl]
      unfold pt
      by_cases a : ltr (sg r)
      · rw [(ltr_y (h256 r) a).1, if_neg (by decide)]; exact ⟨fun h => absurd (.inl a) h.1, fun _ => rfl⟩
      rw [(ltr_n (h256 r) a).1, if_pos rfl]
      by_cases b : dgt (sg r)
      · rw [(dgt_y (h256 r) b).1, if_neg (by decide)]; exact ⟨fun h => absurd (.inr b) h.1, fun _ => rfl⟩
      rw [(dgt_n (h256 r) b).1, if_pos rfl]
      have hx := h256 r
      by_cases d : sg r < 65
      · rw [if_pos (show nI (sg r) < 65 from nI_lt (b := 65) d (by decide))]; exact ⟨fun _ => rfl, fun h => absurd ⟨fun h => h.elim a b, .inl d⟩ h⟩
      rw [if_neg (show ¬ nI (sg r) < 65 from nI_nlt (b := 65) (by omega) (by omega))]
      by_cases f : 90 < sg r
      · rw [if_pos (show 90 < nI (sg r) from nI_lt (a := 90) f (by omega))]; exact ⟨fun _ => rfl, fun h => absurd ⟨fun h => h.elim a b, .inr f⟩ h⟩
      rw [if_neg (show ¬ 90 < nI (sg r) from nI_nlt (a := 90) (by omega) (by decide))]
      exact ⟨fun h => by omega, fun _ => rfl⟩
    · obtain rfl : r = e := by omega
      rw [if_neg hl, show f_Sc_isLetter (-1) = 0 by decide +kernel, if_pos rfl, show f_Sc_isDigit (-1) = 0 by decide +kernel, if_pos rfl, if_pos (show (-1 : Int32) < 65 by decide), hse]
      exact ⟨fun _ => rfl, fun h => absurd pt10 h⟩
  unfold f_Sc_readNumber_J110 f_Sc_readNumber_J106 f_Sc_readNumber_J111 f_Sc_readNumber_J127 f_Sc_readNumber_J128 at key
  simp only [lt_eq] at key
  rw [if_pos trivial, if_neg (show ¬ (1 : Int32) = 0 by decide)] at key
  by_cases hp : pt (sg r)
  · rw [key.1 hp]
    by_cases hv : v = 0
    · rw [if_pos hv]; exact ⟨fun h => absurd hv h.1, fun _ => rfl⟩
    · rw [if_neg hv]; exact ⟨fun _ => rfl, fun h => absurd ⟨hv, hp⟩ h⟩
  · rw [key.2 hp]
    refine ⟨fun h => absurd h.2 hp, fun _ => ?_⟩
    by_cases hv : v = 0
    · rw [if_pos hv]
    · rw [if_neg hv]
def nmV (v1 : Int32) (v3 : Int64) : Int32 := if v1 = 0 then v3.toInt32 else (-v3).toInt32
theorem mo_J297 {L : Nat} {sg : Nat → Nat} {s : St} {r : Nat} (hT : TXM L sg s) (h1 : s.1 0 26 = nI r) (hr : r < 2 ^ 30) (v1 : Int32) (v3 : Int64) (v5 : Int32) : ((v5 ≠ 0 ∧ pt (sg r)) → f_Mo_nextNumber_J297 v1 v3 v5 s = some (uI (uI s 0 24 3) 0 27 (nmV v1 v3))) ∧ (¬ (v5 ≠ 0 ∧ pt (sg r)) → f_Mo_nextNumber_J297 v1 v3 v5 s = some (uI (uI s 0 24 1) 0 27 (nmV v1 v3))) := by
  have h256 := hT.2.2.2.2
  have j360 : ∀ w, f_Mo_nextNumber_J360 v1 v3 w s = some (uI (uI s 0 24 w) 0 27 (nmV v1 v3)) := by
    intro w
    unfold f_Mo_nextNumber_J360 f_Mo_nextNumber_J374 nmV
    simp only [lt_eq]
    by_cases h : v1 = 0
    · rw [if_pos h, if_pos h]
    · rw [if_neg h, if_neg h]
  have key : (pt (sg r) → f_Mo_nextNumber_J297 v1 v3 v5 s = f_Mo_nextNumber_J337 v1 v3 v5 s) ∧ (¬ pt (sg r) → f_Mo_nextNumber_J297 v1 v3 v5 s = f_Mo_nextNumber_J341 v1 v3 v5 s) := by
    unfold f_Mo_nextNumber_J297
    rw [h1, mo_sign hT (by omega)]
    simp only [Option.bind_some]
    have hx := h256 r
    unfold pt
    by_cases a : ltr (sg r) ∨ dgt (sg r)
    · rw [wsg_y (h256 r) a, if_neg (by decide)]; exact ⟨fun h => absurd a h.1, fun _ => rfl⟩
    rw [wsg_n (h256 r) a, if_pos rfl]
    by_cases d : sg r < 65
    · rw [if_pos (show nI (sg r) < 65 from nI_lt (b := 65) d (by decide))]; exact ⟨fun _ => rfl, fun h => absurd ⟨a, .inl d⟩ h⟩
    rw [if_neg (show ¬ nI (sg r) < 65 from nI_nlt (b := 65) (by omega) (by omega))]
    by_cases f : 90 < sg r
    · rw [if_neg (show ¬ nI (sg r) ≤ 90 from nI_ge (a := 90) f (by omega))]; exact ⟨fun _ => rfl, fun h => absurd ⟨a, .inr f⟩ h⟩
    rw [if_pos (show nI (sg r) ≤ 90 from nI_le (b := 90) (by omega) (by decide))]
    exact ⟨fun h => by omega, fun _ => rfl⟩
  unfold f_Mo_nextNumber_J337 f_Mo_nextNumber_J341 f_Mo_nextNumber_J342 f_Mo_nextNumber_J359 at key
  simp only [j360] at key
  rw [if_pos trivial, if_neg (show ¬ (1 : Int32) = 0 by decide)] at key
  by_cases hp : pt (sg r)
  · rw [key.1 hp]
    by_cases hv : v5 = 0
    · rw [if_pos hv]; exact ⟨fun h => absurd hv h.1, fun _ => rfl⟩
    · rw [if_neg hv]; exact ⟨fun _ => rfl, fun h => absurd ⟨hv, hp⟩ h⟩
  · rw [key.2 hp]
    refine ⟨fun h => absurd h.2 hp, fun _ => ?_⟩
    by_cases hv : v5 = 0
    · rw [if_pos hv]
    · rw [if_neg hv]
/-- the class's digits -/
theorem sc_dec {L : Nat} {sg : Nat → Nat} {c : St} {e f k : Nat} (hC : TXC L sg c) (he : e ≤ L) (h2 : c.1 3 2 = nI e) (hr : c.2.2 3 = 1) (h1 : c.1 3 1 = nI f) (h256 : ∀ i, sg i < 256) (hk : k ≤ 10) (hke : f + k ≤ e) (hd : ∀ i, i < k → dgt (sg (f + i))) (hn : k < 10 → ¬ (f + k < e ∧ dgt (sg (f + k)))) (v1 : Int32) :
    f_Sc_readDecimal v1 c = if v1 = 0 then f_Sc_readDecimal_J69 (lN (dcv sg f k)) (nI k) (uI c 3 1 (nI (f + k))) else f_Sc_readDecimal_J69 (-lN (dcv sg f k)) (nI k) (uI c 3 1 (nI (f + k))) := by
  have hL := hC.1
  have tx : ∀ i, TXC L sg (uI c 3 1 (nI i)) := fun i => TXC_of hC (uI_n (by omega))
  have s2 : ∀ i, (uI c 3 1 (nI i)).1 3 2 = nI e := fun i => by rw [uI_o (by omega)]; exact h2
  have st : ∀ i, 0 ≤ i → i < k → f_Sc_readDecimal_L5 v1 (lN (dcv sg f i)) (nI i) (uI c 3 1 (nI (f + i))) = some (.inl (lN (dcv sg f (i + 1)), nI (i + 1), uI c 3 1 (nI (f + (i + 1))))) := by
    intro i _ hi
    have hdi := hd i hi
    have hdd : 48 ≤ sg (f + i) ∧ sg (f + i) ≤ 57 := hdi
    unfold f_Sc_readDecimal_L5
    rw [if_neg (show ¬ 10 ≤ nI i from nI_ge (b := 10) (by omega) (by decide)), uI_v, sc_byte (tx _) he (s2 _) hr (by omega), Option.bind_some]
    unfold bya
    rw [if_pos (show f + i < e by omega), (dgt_y (h256 _) hdi).1, if_neg (by decide), if_pos (show (uI c 3 1 (nI (f + i))).2.2 3 = 1 from hr), gd_nI (by omega) (by omega), nI_clamp (by omega), uI_n (by omega), hC.2 (f + i) (by omega), show (48 : Int32) = nI 48 from rfl, nI_sub hdd.1, nI_l (by omega), show (10 : Int64) = lN 10 from rfl, lN_mul, lN_add, lt_eq, lt_eq, nI_1, nI_1, uI_uI]
    rfl
  have en : f_Sc_readDecimal_L5 v1 (lN (dcv sg f k)) (nI k) (uI c 3 1 (nI (f + k))) = some (.inr (lN (dcv sg f k), nI k, uI c 3 1 (nI (f + k)))) := by
    unfold f_Sc_readDecimal_L5
    by_cases h10 : k = 10
    · rw [if_pos (show 10 ≤ nI k by rw [h10]; decide)]
    · rw [if_neg (show ¬ 10 ≤ nI k from nI_ge (b := 10) (by omega) (by decide)), uI_v, sc_byte (tx _) he (s2 _) hr (by omega), Option.bind_some]
      unfold bya
      by_cases hl : f + k < e
      · rw [if_pos hl, (dgt_n (h256 _) (fun h => hn (by omega) ⟨hl, h⟩)).1, if_pos rfl]
      · rw [if_neg hl, show f_Sc_isDigit (-1) = 0 by decide +kernel, if_pos rfl]
  have hw := wh_cnt (f := fun a : (Int64 × Int32 × St) => f_Sc_readDecimal_L5 v1 a.1 a.2.1 a.2.2) (g := fun i => (lN (dcv sg f i), nI i, uI c 3 1 (nI (f + i)))) (r := k) k 0 (by omega) st en
  unfold f_Sc_readDecimal
  have e0 : ((0 : Int64), (0 : Int32), c) = (lN (dcv sg f 0), nI 0, uI c 3 1 (nI (f + 0))) := by rw [Nat.add_zero, uI_same h1]; rfl
  rw [e0, hw, Option.bind_some]
  simp only [lt_eq]
theorem sc_J69 {k : Nat} (hk : k ≤ 10) (v : Int64) (s : St) : ∃ w, f_Sc_readDecimal_J69 v (nI k) s = some (w, uI s 3 6 v.toInt32) ∧ (w ≠ 0 ↔ (k ≠ 0 ∧ ¬ v < -2147483648 ∧ ¬ 4294967295 < v)) := by
  unfold f_Sc_readDecimal_J69
  rw [lt_eq]
  by_cases h0 : k = 0
  · subst h0
    rw [if_pos (by decide)]; exact ⟨0, rfl, fun h => absurd rfl h, fun h => absurd rfl h.1⟩
  rw [if_neg (nI_nle (by omega) (by omega))]
  by_cases h1 : v < -2147483648
  · rw [if_pos ((lg_cmp_lt _ _).mpr h1)]; exact ⟨0, rfl, fun h => absurd rfl h, fun h => absurd h1 h.2.1⟩
  rw [if_neg (fun h => h1 ((lg_cmp_lt _ _).mp h))]
  by_cases h2 : 4294967295 < v
  · rw [if_pos ((lg_cmp_gt _ _).mpr h2)]; exact ⟨0, rfl, fun h => absurd rfl h, fun h => absurd h2 h.2.2⟩
  rw [if_neg (fun h => h2 ((lg_cmp_gt _ _).mp h))]
  exact ⟨1, rfl, fun _ => ⟨h0, h1, h2⟩, fun _ => by decide⟩
/-- the reference's digits -/
theorem mo_dec {L : Nat} {sg : Nat → Nat} {s : St} {f n : Nat} (hT : TXM L sg s) (h1 : s.1 0 26 = nI f) (hf : f + n < 2 ^ 30) (hd : ∀ i, i < n → dgt (sg (f + i))) (hn : ¬ dgt (sg (f + n))) (v1 : Int32) :
    wh (fun a : (Int64 × St) => f_Mo_nextNumber_L190 v1 (nI f) a.1 a.2) (0, s) = some (lN (dcv sg f (min n 10)), uI s 0 26 (nI (f + n))) := by
  have h256 := hT.2.2.2.2
  have tx : ∀ i, TXM L sg (uI s 0 26 (nI i)) := fun i => TXM_u hT (by omega)
  have st : ∀ i, 0 ≤ i → i < n → f_Mo_nextNumber_L190 v1 (nI f) (lN (dcv sg f (min i 10))) (uI s 0 26 (nI (f + i))) = some (.inl (lN (dcv sg f (min (i + 1) 10)), uI s 0 26 (nI (f + (i + 1))))) := by
    intro i _ hi
    have hdi := hd i hi
    have hdd : 48 ≤ sg (f + i) ∧ sg (f + i) ≤ 57 := hdi
    unfold f_Mo_nextNumber_L190 f_Mo_nextNumber_J235_1
    rw [uI_v, mo_sign (tx _) (by omega), Option.bind_some, (dgt_y (h256 _) hdi).2, if_neg (by decide), nI_sub (by omega), show f + i - f = i by omega]
    simp only [lt_eq, uI_v, nI_1, uI_uI, Option.bind_some]
    by_cases h10 : 10 ≤ i
    · rw [if_pos (show 10 ≤ nI i from nI_le (a := 10) h10 (by omega)), show min i 10 = 10 by omega, show min (i + 1) 10 = 10 by omega, Nat.add_assoc]
    · rw [if_neg (show ¬ 10 ≤ nI i from nI_ge (b := 10) (by omega) (by decide)), show min i 10 = i by omega, show min (i + 1) 10 = i + 1 by omega, Nat.add_assoc, nI_l (by omega), show (10 : Int64) = lN 10 from rfl, lN_mul, lN_add, show (48 : Int64) = lN 48 from rfl, lN_sub (by omega)]
      show some (Sum.inl (lN (10 * dcv sg f i + sg (f + i) - 48), _)) = some (Sum.inl (lN (dcv sg f i * 10 + (sg (f + i) - 48)), _))
      rw [show 10 * dcv sg f i + sg (f + i) - 48 = dcv sg f i * 10 + (sg (f + i) - 48) by omega]
  have en : f_Mo_nextNumber_L190 v1 (nI f) (lN (dcv sg f (min n 10))) (uI s 0 26 (nI (f + n))) = some (.inr (lN (dcv sg f (min n 10)), uI s 0 26 (nI (f + n)))) := by
    unfold f_Mo_nextNumber_L190
    rw [uI_v, mo_sign (tx _) (by omega), Option.bind_some, (dgt_n (h256 _) hn).2, if_pos rfl]
  have hw := wh_cnt (f := fun a : (Int64 × St) => f_Mo_nextNumber_L190 v1 (nI f) a.1 a.2) (g := fun i => (lN (dcv sg f (min i 10)), uI s 0 26 (nI (f + i)))) (r := n) n 0 (by omega) st en
  have e0 : ((0 : Int64), s) = (lN (dcv sg f (min 0 10)), uI s 0 26 (nI (f + 0))) := by rw [Nat.add_zero, uI_same h1]; rfl
  rw [e0]; exact hw
