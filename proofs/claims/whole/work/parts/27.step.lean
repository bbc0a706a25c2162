/-! ===== the whole order of a machine while it takes a step ===== -/
def sm (f : Nat → Nat) : Nat → Nat
  | 0 => 0
  | n + 1 => sm f n + f (n + 1)
def HX (z B : Nat) (c m : St) (k qs qe : Nat) (F S C W Q : Nat → Nat) : Prop :=
  c.1 (B + 6) 5 = nI k ∧ k ≤ 100
  ∧ (∀ j, 1 ≤ j → j ≤ k → c.1 (B + 7) j = nI (1032 + 8 * F j) ∧ c.1 (B + 8) j = nI (S j) ∧ c.1 (B + 9) j = nI (C j) ∧ S j ≤ 512 ∧ F j + (2 + (S j + 7) / 8) ≤ 256 ∧ C j ≤ 2)
  ∧ (∀ u, u < 256 → c.1 (B + 12) u = nI (W u) ∧ W u ≤ k ∧ (W u ≠ 0 → C (W u) ≠ 0 ∧ F (W u) ≤ u ∧ u < F (W u) + (2 + (S (W u) + 7) / 8)))
  ∧ (∀ j, 1 ≤ j → j ≤ k → C j ≠ 0 → ∀ u, F j ≤ u → u < F j + (2 + (S j + 7) / 8) → W u = j)
  ∧ c.1 (B + 6) 8 = nI qs ∧ c.1 (B + 6) 9 = nI qe ∧ qs ≤ qe ∧ qe = sm (fun j => if C j = 2 then 0 else 1) k
  ∧ m.1 35 z = nI qe ∧ c.1 (B + 6) 10 = nI (sm (fun j => if C j = 1 then S j else 0) k)
  ∧ (∀ i, qs ≤ i → i < qe → c.1 (B + 13) i = nI (Q i) ∧ 1 ≤ Q i ∧ Q i ≤ k ∧ C (Q i) = 1 ∧ m.1 33 (101 * z + Q i) = nI (i + 1))
  ∧ (∀ j, 1 ≤ j → j ≤ k → C j = 1 → ∃ i, qs ≤ i ∧ i < qe ∧ Q i = j)
def HI (z B : Nat) (c m : St) : Prop := ∃ k qs qe F S C W Q, HX z B c m k qs qe F S C W Q
theorem HI_of {z B : Nat} {c m c' m' : St} (h : HI z B c m) (h1 : ∀ k, B + 6 ≤ k → k < B + 14 → c'.1 k = c.1 k) (h2 : m'.1 33 = m.1 33) (h3 : m'.1 35 = m.1 35) : HI z B c' m' := by
  obtain ⟨k, qs, qe, F, S, C, W, Q, h⟩ := h
  refine ⟨k, qs, qe, F, S, C, W, Q, ?_⟩
  unfold HX
  rw [h1 (B + 6) (by omega) (by omega), h1 (B + 7) (by omega) (by omega), h1 (B + 8) (by omega) (by omega), h1 (B + 9) (by omega) (by omega), h1 (B + 12) (by omega) (by omega), h1 (B + 13) (by omega) (by omega), h2, h3]
  exact h
def IX (z B n i N : Nat) (t : Int32) (c0 m0 c m : St) : Prop :=
  c.1 B 9 = nI i ∧ m.1 0 69 = nI i ∧ c.1 B 8 = m0.1 0 29 ∧ c.1 B 12 = c0.1 B 12 ∧ m.1 22 z = t ∧ (c.1 B 11 = 0 ∨ 0 < c.1 B 11)
  ∧ (∃ q, q ≤ N ∧ c.1 B 10 = nI q) ∧ (∃ k, k ≤ 32 ∧ c.1 B 16 = nI k ∧ ∀ j, j < k → ∃ q, q ≤ N ∧ c.1 (B + 36) j = nI q)
  ∧ (∃ k, k ≤ 100 ∧ c.1 B 14 = nI k) ∧ (∃ k, k ≤ n ∧ c.1 B 18 = nI k)
theorem IX_of {z B n n' i N : Nat} {t : Int32} {c0 m0 c m c' m' : St} (h : IX z B n i N t c0 m0 c m) (hn : n ≤ n') (hB : ∀ j, j ≠ 11 → j ≠ 13 → c'.1 B j = c.1 B j) (hs : c'.1 B 11 = 0 ∨ 0 < c'.1 B 11) (h36 : c'.1 (B + 36) = c.1 (B + 36)) (h69 : m'.1 0 69 = m.1 0 69) (h22 : m'.1 22 z = m.1 22 z) : IX z B n' i N t c0 m0 c' m' := by
  obtain ⟨a1, a2, a3, a4, a5, a6, a7, a8, a9, k, a10, a11⟩ := h
  unfold IX
  rw [hB 9 (by omega) (by omega), hB 8 (by omega) (by omega), hB 12 (by omega) (by omega), hB 10 (by omega) (by omega), hB 16 (by omega) (by omega), hB 14 (by omega) (by omega), hB 18 (by omega) (by omega), h36, h69, h22]
  exact ⟨a1, a2, a3, a4, a5, hs, a7, a8, a9, k, by omega, a11⟩
theorem LG_of {z B n n' : Nat} {c m c' m' : St} (h : LG z B n c m) (hn : n ≤ n') (h17 : c'.1 (B + 17) = c.1 (B + 17)) (h64 : m'.1 0 64 = m.1 0 64) : LG z B n' c' m' := by
  obtain ⟨kept, rep, sup, supp, hk, h60, hr, hs, hn, hsu, h20, hq⟩ := h
  unfold LG
  rw [h17, h64]
  exact ⟨kept, rep, sup, supp, hk, h60, hr, hs, by omega, hsu, h20, hq⟩
def SI (z B n i N : Nat) (t : Int32) (c0 m0 c m : St) : Prop := RB z B c0 m0 c m ∧ LG z B n c m ∧ IM B c ∧ IS B c ∧ IR B c ∧ HI z B c m ∧ IX z B n i N t c0 m0 c m
theorem SI_NT {z B n n' i N : Nat} {t : Int32} {c0 m0 c m c' m' : St} (h : SI z B n i N t c0 m0 c m) (hR : RB z B c0 m0 c' m') (hn : n ≤ n') (hL : LG z B n' c' m') (hN : NT B c m c' m') : SI z B n' i N t c0 m0 c' m' := by
  obtain ⟨h1, h2, h3, h4, h5, h6, h7⟩ := h
  obtain ⟨n1, n2, n3, n4⟩ := hN
  refine ⟨hR, hL, IM_of h3 (n1 _ (by omega)) (n1 _ (by omega)) (n1 _ (by omega)), IS_of h4 (by rw [n1 _ (by omega)]) (n1 _ (by omega)) (n1 _ (by omega)), IR_of h5 (fun k _ _ => n1 k (by omega)), HI_of h6 (fun k _ _ => n1 k (by omega)) (n2 _ (by omega) (by omega)) (n2 _ (by omega) (by omega)), IX_of h7 hn (fun j _ _ => by rw [n1 B (by omega)]) ?_ (n1 _ (by omega)) (n3 _ (by omega)) (by rw [n2 22 (by omega) (by omega)])⟩
  rw [n1 B (by omega)]; exact h7.2.2.2.2.2.1
theorem SI_GT {z B n i N : Nat} {t : Int32} {c0 m0 c m c' m' : St} (h : SI z B n i N t c0 m0 c m) (hR : RB z B c0 m0 c' m') (hM : IM B c') (hS : IS B c') (hI : IR B c') (hG : GT B c m c' m') (hs : c'.1 B 11 = 0 ∨ 0 < c'.1 B 11) : SI z B n i N t c0 m0 c' m' := by
  obtain ⟨h1, h2, h3, h4, h5, h6, h7⟩ := h
  obtain ⟨n1, n2, n3⟩ := hG
  exact ⟨hR, LG_of h2 (Nat.le_refl _) (n1 _ (by omega)) (by rw [n3 0 (by omega)]), hM, hS, hI, HI_of h6 (fun k _ _ => n1 k (by omega)) (n3 _ (by omega)) (n3 _ (by omega)), IX_of h7 (Nat.le_refl _) n2 hs (n1 _ (by omega)) (by rw [n3 0 (by omega)]) (by rw [n3 22 (by omega)])⟩
theorem SI_mono {z B n n' i N : Nat} {t : Int32} {c0 m0 c m : St} (h : SI z B n i N t c0 m0 c m) (hn : n ≤ n') : SI z B n' i N t c0 m0 c m := by
  obtain ⟨h1, h2, h3, h4, h5, h6, h7⟩ := h
  exact ⟨h1, LG_of h2 hn rfl rfl, h3, h4, h5, h6, IX_of h7 hn (fun _ _ _ => rfl) h7.2.2.2.2.2.1 rfl rfl rfl⟩
theorem phi_ab {z d j : Nat} (h : d = 34 ∨ d = 35) : phi z d j = none := by rcases h with rfl | rfl <;> simp [phi]
/-- the two scratch data -/
theorem SI_ab {z B n i N : Nat} {t : Int32} {c0 m0 c m : St} (h : SI z B n i N t c0 m0 c m) {k : Nat} (hk : k = B + 34 ∨ k = B + 35) {v s o : Int32} : SI z B n i N t c0 m0 (dP c k v s o) m := by
  obtain ⟨h1, h2, h3, h4, h5, h6, h7⟩ := h
  obtain ⟨d, hd, rfl⟩ : ∃ d, (d = 34 ∨ d = 35) ∧ k = B + d := by
    rcases hk with rfl | rfl
    · exact ⟨34, .inl rfl, rfl⟩
    · exact ⟨35, .inr rfl, rfl⟩
  have hn : ∀ k', k' ≠ B + d → (dP c (B + d) v s o).1 k' = c.1 k' := fun k' hk => dP_n hk
  have hR : RB z B c0 m0 (dP c (B + d) v s o) m := RB_c (RB_c (RB_c h1 (phi_ab hd) (by omega)) (phi_ab hd) (by omega)) (phi_ab hd) (by omega)
  refine ⟨hR, LG_of h2 (Nat.le_refl _) (hn _ (by omega)) rfl, IM_of h3 (hn _ (by omega)) (hn _ (by omega)) (hn _ (by omega)), IS_of h4 (by rw [hn _ (by omega)]) (hn _ (by omega)) (hn _ (by omega)), IR_of h5 (fun k _ _ => hn k (by omega)), HI_of h6 (fun k _ _ => hn k (by omega)) rfl rfl, IX_of h7 (Nat.le_refl _) (fun j _ _ => by rw [hn B (by omega)]) ?_ (hn _ (by omega)) rfl rfl⟩
  rw [hn B (by omega)]; exact h7.2.2.2.2.2.1
theorem S_note {z B n i N : Nat} {t : Int32} {c0 m0 c m : St} (h : SI z B n i N t c0 m0 c m) (v1 v3 : Int32) :
    ∃ c' m', f_Lg_note B v1 (c.1 B 9) v3 c = some c' ∧ f_Mo_told v1 v3 m = some m' ∧ SI z B (n + 1) i N t c0 m0 c' m' ∧ NT B c m c' m' := by
  obtain ⟨c', m', e1, e2, e3, e4, e5⟩ := s_note h.1 h.2.1 v1 v3 (v2 := c.1 B 9) (h.2.2.2.2.2.2.2.1.trans h.2.2.2.2.2.2.1.symm)
  exact ⟨c', m', e1, e2, SI_NT h e3 (by omega) e4 e5, e5⟩
theorem S_rep {z B n i N : Nat} {t : Int32} {c0 m0 c m : St} (h : SI z B n i N t c0 m0 c m) (k : Nat) (v1 : Int32) {s o : Int32} (hs : c.1 k 1 = s) (ho : c.1 k 2 = o) :
    ∃ c' m', f_Ma_reportShade B k v1 c = some c' ∧ (∀ J : St → Option St, (if s = 0 then J m else (f_Mo_told v1 o m).bind J) = J m') ∧ SI z B (n + 1) i N t c0 m0 c' m' ∧ NT B c m c' m' := by
  unfold f_Ma_reportShade
  rw [hs, ho]
  by_cases g : s = 0
  · exact ⟨c, m, if_pos g, fun J => if_pos g, SI_mono h (by omega), NT_rf⟩
  · obtain ⟨c', m', e1, e2, e3, e4⟩ := S_note h v1 o
    refine ⟨c', m', ?_, fun J => ?_, e3, e4⟩
    · rw [if_neg g, e1]; rfl
    · rw [if_neg g, e2]; rfl
theorem S_give {z B n i N : Nat} {t : Int32} {c0 m0 c m : St} (h : SI z B n i N t c0 m0 c m) (he : c.1 B 11 = 0) {r : Nat} (hr : r < 8) (v s o : Int32) :
    ∃ c' m', f_Ma_give B (nI r) v s o c = some c' ∧ f_Mo_give (nI r) v s o m = some m' ∧ SI z B n i N t c0 m0 c' m' ∧ GT B c m c' m' ∧ (c'.1 B 11 = 0 ∨ (r = 7 ∧ c'.1 B 11 = 3)) ∧ (c'.1 B 11 = 0 → c'.1 (B + 26 + r) 0 = v) := by
  obtain ⟨c', m', e1, e2, e3, e4, e5, e6, e7, e8, e9⟩ := s_give h.1 h.2.2.1 h.2.2.2.1 h.2.2.2.2.1 (h.2.2.2.2.2.2.2.1.trans h.2.2.2.2.2.2.1.symm) he hr v s o
  refine ⟨c', m', e1, e2, SI_GT h e3 e4 e5 e6 e7 ?_, e7, e8, e9⟩
  rcases e8 with e | ⟨_, e⟩
  · exact .inl e
  · rw [e]; exact .inr (by decide)
theorem S_trap {z B n i N : Nat} {t : Int32} {c0 m0 c m : St} (h : SI z B n i N t c0 m0 c m) (he : c.1 B 11 = 0) {v : Nat} (hv : v < 100) :
    ∃ c' m', f_Ma_trap B (nI v) c = some c' ∧ f_Mo_trap (nI v) m = some m' ∧ SI z B n i N t c0 m0 c' m' := by
  obtain ⟨c', m', e1, e2, e3, e4, e5, e6, e7⟩ := RB_trap (v := nI v) h.1 he
  refine ⟨c', m', e1, e2, ?_⟩
  refine SI_GT h e3 (IM_of h.2.2.1 (e4 _ (by omega)) (e4 _ (by omega)) (e4 _ (by omega))) (IS_of h.2.2.2.1 (by rw [e4 _ (by omega)]) (e4 _ (by omega)) (e4 _ (by omega))) (IR_of h.2.2.2.2.1 (fun k _ _ => e4 k (by omega))) ⟨fun k hk => e4 k (by omega), e5, fun k hk => e6 k (by omega) (by omega)⟩ (.inr ?_)
  rw [e7, show (1 : Int32) + nI v = nI (1 + v) from nI_add 1 v]
  exact nI_lt (a := 0) (by omega) (by omega)
/-! ===== what an instruction reads ===== -/
def kR (c0 m0 : St) (P b i j r : Nat) : Prop := r < 8 ∧ m0.1 4 (600 * b + 3 * i + j) ≠ 0 ∧ m0.1 5 (600 * b + 3 * i + j) = nI r ∧ c0.1 (P + 2) (3 * i + j) = nI r
def kN (c0 m0 : St) (P b i j : Nat) (w : Int32) : Prop := m0.1 4 (600 * b + 3 * i + j) = 0 ∧ m0.1 5 (600 * b + 3 * i + j) = w ∧ c0.1 (P + 2) (3 * i + j) = w
def kL (c0 m0 : St) (P b i j t : Nat) : Prop := m0.1 5 (600 * b + 3 * i + j) = nI t ∧ c0.1 (P + 2) (3 * i + j) = nI t
def kE (c0 m0 : St) (P b i j : Nat) : Prop := (c0.1 (P + 3) i = 0 ∧ ∃ r, kR c0 m0 P b i j r) ∨ (c0.1 (P + 3) i ≠ 0 ∧ ∃ w, kN c0 m0 P b i j w)
def kO (c0 m0 : St) (P b i j N : Nat) (k : Nat) : Prop := (k = 1 → ∃ r, kR c0 m0 P b i j r) ∧ (k = 2 → ∃ w, kN c0 m0 P b i j w) ∧ (k = 3 → kE c0 m0 P b i j) ∧ (k = 4 → ∃ t, t ≤ N ∧ kL c0 m0 P b i j t)
def fm (o j : Nat) : Nat :=
  if o = 0 then (if j = 0 then 1 else if j = 1 then 2 else 0)
  else if o < 4 ∨ o = 19 ∨ o = 20 then (if j < 2 then 1 else 0)
  else if o < 19 then (if j < 2 then 1 else 3)
  else if o < 29 then (if j < 2 then 1 else 2)
  else if o < 35 then (if j = 0 then 1 else if j = 1 then 3 else 4)
  else if o < 37 then (if j = 0 then 4 else 0)
  else if o < 39 then 0
  else if o = 41 ∨ o = 42 then (if j = 0 then 1 else if j = 1 then 3 else 0)
  else if o = 49 then (if j = 0 then 1 else if j = 1 then 3 else 2)
  else if o = 43 ∨ o = 45 ∨ o = 46 ∨ o = 50 then (if j < 2 then 1 else 3)
  else (if j = 0 then 1 else 0)
def PX (B P b i N o : Nat) (c0 m0 : St) : Prop := isP P ∧ c0.2.2 (mq B) = P ∧ b < 2 ∧ m0.1 0 14 = nI b ∧ i < N ∧ N ≤ 200 ∧ c0.1 P 3 = nI N ∧ m0.1 0 16 = nI N ∧ c0.1 (P + 1) i = nI o ∧ m0.1 3 (200 * b + i) = nI o ∧ o ≤ 50 ∧ (m0.1 0 29 = 0 ∨ m0.1 0 29 = 1) ∧ (∀ j, j < 3 → kO c0 m0 P b i j N (fm o j))
theorem PX_R {B P b i N o : Nat} {c0 m0 : St} (h : PX B P b i N o c0 m0) {j : Nat} (hj : j < 3) (hk : fm o j = 1) : ∃ r, kR c0 m0 P b i j r := (h.2.2.2.2.2.2.2.2.2.2.2.2 j hj).1 hk
theorem PX_N {B P b i N o : Nat} {c0 m0 : St} (h : PX B P b i N o c0 m0) {j : Nat} (hj : j < 3) (hk : fm o j = 2) : ∃ r, kN c0 m0 P b i j r := (h.2.2.2.2.2.2.2.2.2.2.2.2 j hj).2.1 hk
theorem PX_E {B P b i N o : Nat} {c0 m0 : St} (h : PX B P b i N o c0 m0) {j : Nat} (hj : j < 3) (hk : fm o j = 3) : kE c0 m0 P b i j := (h.2.2.2.2.2.2.2.2.2.2.2.2 j hj).2.2.1 hk
theorem PX_L {B P b i N o : Nat} {c0 m0 : St} (h : PX B P b i N o c0 m0) {j : Nat} (hj : j < 3) (hk : fm o j = 4) : ∃ t, t ≤ N ∧ kL c0 m0 P b i j t := (h.2.2.2.2.2.2.2.2.2.2.2.2 j hj).2.2.2 hk
theorem PX_lt {B P b i N o : Nat} {c0 m0 : St} (h : PX B P b i N o c0 m0) : b < 2 ∧ i < 200 := ⟨h.2.2.1, by have := h.2.2.2.2.1; have := h.2.2.2.2.2.1; omega⟩
theorem fr_c {z B : Nat} {c0 m0 c m : St} (h : RB z B c0 m0 c m) {k : Nat} (hk : k < 20) : c.1 k = c0.1 k := h.2.1.1 k (.inl (by have := RB_B h; omega))
theorem fr_4 {z B : Nat} {c0 m0 c m : St} (h : RB z B c0 m0 c m) {k x : Nat} (hk : 0 < k ∧ k < 13) : m.1 k x = m0.1 k x := RB_0 h (by unfold own; omega)
theorem isP_lt {P : Nat} (h : isP P) : P < 16 := by rcases h with rfl | rfl <;> omega
theorem SI_9 {z B n i N : Nat} {t : Int32} {c0 m0 c m : St} (h : SI z B n i N t c0 m0 c m) : c.1 B 9 = nI i := h.2.2.2.2.2.2.1
theorem SI_69 {z B n i N : Nat} {t : Int32} {c0 m0 c m : St} (h : SI z B n i N t c0 m0 c m) : m.1 0 69 = nI i := h.2.2.2.2.2.2.2.1
theorem SI_8 {z B n i N : Nat} {t : Int32} {c0 m0 c m : St} (h : SI z B n i N t c0 m0 c m) : c.1 B 8 = m0.1 0 29 := h.2.2.2.2.2.2.2.2.1
theorem SI_29 {z B n i N : Nat} {t : Int32} {c0 m0 c m : St} (h : SI z B n i N t c0 m0 c m) : m.1 0 29 = m0.1 0 29 := RB_0 h.1 (by unfold own; omega)
theorem gP_e {β : Type} {P : Nat} {f : Nat → Option β} (h : isP P) : gP P f = f P := if_pos h
theorem rd_o {z B n i N P b o : Nat} {t : Int32} {c0 m0 c m : St} (h : SI z B n i N t c0 m0 c m) (hX : PX B P b i N o c0 m0) {j : Nat} (hj : j < 3) {v : Int32} (hv : v = nI j) : f_Ma_operand B v c = some (c0.1 (P + 2) (3 * i + j)) := by
  have hP := hX.1
  have hq : c.2.2 (mq B) = P := by rw [RB_c2 h.1]; exact hX.2.1
  have hi := (PX_lt hX).2
  have hl := isP_lt hP
  unfold f_Ma_operand
  rw [hq, gP_e hP, SI_9 h, hv, show (3 : Int32) = nI 3 from rfl, nI_mul, nI_add, Nat.mul_comm i 3, gd_nI (by omega) (by omega), nI_clamp (by omega), fr_c h.1 (by omega)]
theorem rd_R {z B n i N P b o : Nat} {t : Int32} {c0 m0 c m : St} (h : SI z B n i N t c0 m0 c m) (hX : PX B P b i N o c0 m0) {j r : Nat} (hj : j < 3) (hk : kR c0 m0 P b i j r) {v : Int32} (hv : v = nI j) : f_Ma_operand B v c = some (nI r) ∧ f_Ma_registerOf B v c = some (B + 26 + r) ∧ isD (B + 26 + r) := by
  have e := rd_o h hX hj hv
  rw [hk.2.2.2] at e
  have hr := hk.1
  refine ⟨e, ?_, ?_⟩
  · unfold f_Ma_registerOf
    rw [e]
    show gd (nI r &&& 7) 8 _ = _
    rw [and7 hr, gd_nI hr (by omega), nI_clamp (by omega)]
  · have := h.1.2.2.2.1; unfold ZB at this; unfold isD; omega
theorem rd_5 {z B n i N P b o : Nat} {t : Int32} {c0 m0 c m : St} (h : SI z B n i N t c0 m0 c m) (hX : PX B P b i N o c0 m0) {j : Nat} (hj : j < 3) {x : Int32} (hx : x = nI (600 * b + 3 * i + j)) : (∀ {β : Type} (q : Option β), gd x 1200 q = q) ∧ m.1 5 x.toNatClampNeg = m0.1 5 (600 * b + 3 * i + j) ∧ m.1 4 x.toNatClampNeg = m0.1 4 (600 * b + 3 * i + j) := by
  obtain ⟨hb, hi⟩ := PX_lt hX
  subst hx
  rw [nI_clamp (by omega), fr_4 h.1 (by omega), fr_4 h.1 (by omega)]
  exact ⟨fun q => gd_nI (by omega) (by omega), rfl, rfl⟩
theorem rd_m {z B n i N P b o : Nat} {t : Int32} {c0 m0 c m : St} (h : SI z B n i N t c0 m0 c m) (hX : PX B P b i N o c0 m0) {j r : Nat} (hj : j < 3) (hk : kR c0 m0 P b i j r) {x : Int32} (hx : x = nI (600 * b + 3 * i + j)) : f_Mo_value x m = some (c.1 (B + 26 + r) 0) ∧ f_Mo_shade x m = some (c.1 (B + 26 + r) 1) ∧ f_Mo_origin x m = some (c.1 (B + 26 + r) 2) := by
  obtain ⟨g, e5, e4⟩ := rd_5 h hX hj hx
  obtain ⟨hr, h4, h5, _⟩ := hk
  obtain ⟨r0, r1, r2⟩ := RB_reg h.1 hr
  have hz := RB_zb h.1
  unfold f_Mo_value f_Mo_shade f_Mo_origin
  simp only [g, e5, e4, if_neg h4, h5, RB_z h.1, ix8]
  rw [gd_nI (by omega) (by omega), gd_nI (by omega) (by omega), gd_nI (by omega) (by omega), nI_clamp (by omega), r0, r1, r2]
  exact ⟨rfl, rfl, rfl⟩
theorem rd_n {z B n i N P b o : Nat} {t : Int32} {c0 m0 c m : St} (h : SI z B n i N t c0 m0 c m) (hX : PX B P b i N o c0 m0) {j : Nat} {w : Int32} (hj : j < 3) (hk : kN c0 m0 P b i j w) {x : Int32} (hx : x = nI (600 * b + 3 * i + j)) : f_Mo_value x m = some w ∧ f_Mo_shade x m = some 0 ∧ f_Mo_origin x m = some 0 := by
  obtain ⟨g, e5, e4⟩ := rd_5 h hX hj hx
  obtain ⟨h4, h5, _⟩ := hk
  unfold f_Mo_value f_Mo_shade f_Mo_origin
  simp [g, e5, e4, h4, h5]
theorem rd_t {z B n i N P b o : Nat} {t : Int32} {c0 m0 c m : St} (h : SI z B n i N t c0 m0 c m) (hX : PX B P b i N o c0 m0) {j r : Nat} (hj : j < 3) (hk : kR c0 m0 P b i j r) (k : Nat) {w : Int32} (hw : w = nI j) {x : Int32} (hx : x = nI (600 * b + 3 * i + j)) :
    ∃ v s o, (s = 0 → o = 0) ∧ f_Ma_takeRegister B k w c = some (dP c k v s o) ∧ f_Mo_value x m = some v ∧ f_Mo_shade x m = some s ∧ f_Mo_origin x m = some o ∧ v = c.1 (B + 26 + r) 0 ∧ s = c.1 (B + 26 + r) 1 ∧ o = c.1 (B + 26 + r) 2 := by
  obtain ⟨e1, e2, e3⟩ := rd_m h hX hj hk hx
  obtain ⟨f1, f2, f3⟩ := rd_R h hX hj hk hw
  refine ⟨_, _, _, h.2.2.2.2.1 r hk.1, ?_, e1, e2, e3, rfl, rfl, rfl⟩
  unfold f_Ma_takeRegister f_Da_take
  rw [f2]
  simp only [Option.bind_some, if_pos f3, da_put]
theorem rd_e {z B n i N P b o : Nat} {t : Int32} {c0 m0 c m : St} (h : SI z B n i N t c0 m0 c m) (hX : PX B P b i N o c0 m0) {j : Nat} (hj : j < 3) (hk : kE c0 m0 P b i j) (k : Nat) {w : Int32} (hw : w = nI j) {x : Int32} (hx : x = nI (600 * b + 3 * i + j)) :
    ∃ v s o, (s = 0 → o = 0) ∧ f_Ma_takeEither B k w c = some (dP c k v s o) ∧ f_Mo_value x m = some v ∧ f_Mo_shade x m = some s ∧ f_Mo_origin x m = some o := by
  have hP := hX.1
  have hq : c.2.2 (mq B) = P := by rw [RB_c2 h.1]; exact hX.2.1
  have hi := (PX_lt hX).2
  have hl := isP_lt hP
  unfold f_Ma_takeEither
  rw [hq, gP_e hP, SI_9 h, gd_nI (by omega) (by omega), nI_clamp (by omega), fr_c h.1 (by omega)]
  rcases hk with ⟨h0, r, hk⟩ | ⟨h0, u, hk⟩
  · obtain ⟨v, s, o, h1, h2, h3, h4, h5, _⟩ := rd_t h hX hj hk k hw hx
    refine ⟨v, s, o, h1, ?_, h3, h4, h5⟩
    rw [if_pos h0, h2]; rfl
  · obtain ⟨h3, h4, h5⟩ := rd_n h hX hj hk hx
    refine ⟨u, 0, 0, fun _ => rfl, ?_, h3, h4, h5⟩
    rw [if_neg h0, rd_o h hX hj hw, hk.2.2]
    unfold f_Da_putSet
    simp only [Option.bind_some, da_put]
theorem NT_rd {B : Nat} {c m c' m' : St} (h : NT B c m c' m') (x : Int32) : f_Mo_value x m' = f_Mo_value x m ∧ f_Mo_shade x m' = f_Mo_shade x m ∧ f_Mo_origin x m' = f_Mo_origin x m := by
  unfold f_Mo_value f_Mo_shade f_Mo_origin
  rw [h.2.1 4 (by omega) (by omega), h.2.1 5 (by omega) (by omega), h.2.1 13 (by omega) (by omega), h.2.1 14 (by omega) (by omega), h.2.1 15 (by omega) (by omega), h.2.2.1 28 (by omega)]
  exact ⟨rfl, rfl, rfl⟩
theorem ne_l {o k : Nat} (ho : o < 1000) (hk : k < 1000) (h : o ≠ k) : ¬ nI o = nI k := fun e => h ((nI_eq (by omega) (by omega)).mp e)
theorem dP_n0 {c : St} {k k' : Nat} {v s o : Int32} (h : k' ≠ k) (j : Nat) : (dP c k v s o).1 k' j = c.1 k' j := by rw [dP_n h]
theorem dP_2' {c : St} {k : Nat} {v s o : Int32} (h : s = 0 → o = 0) : (dP c k v s o).1 k 2 = o := by
  rw [dP_2]; split
  · next e => exact (h e).symm
  · rfl
/-! ===== reckoning ===== -/
theorem o_J133 {z B n i N P b o : Nat} {t : Int32} {c0 m0 c m : St} (h : SI z B n i N t c0 m0 c m) (hX : PX B P b i N o c0 m0) (he : c.1 B 11 = 0) {r : Nat} (hk : kR c0 m0 P b i 0 r) {v2 v s og : Int32} (h1 : f_Ru_shade (B + 34) (B + 35) v2 (c.1 B 8) c = some s) (h2 : f_Ru_origin (B + 34) (B + 35) c = some og) (h3 : f_Ru_value v2 (c.1 (B + 34) 0) (c.1 (B + 35) 0) = v) :
    ∃ c' m', f_Ma_compute_J133 B v2 c = some c' ∧ f_Mo_give (nI r) v s og m = some m' ∧ SI z B n i N t c0 m0 c' m' := by
  obtain ⟨c', m', e1, e2, e3, _⟩ := S_give h he hk.1 v s og
  refine ⟨c', m', ?_, e2, e3⟩
  unfold f_Ma_compute_J133
  rw [h1, h2, h3, (rd_R h hX (by omega) hk (v := 0) rfl).1]
  simp only [Option.bind_some, e1]
theorem fm_a {o : Nat} (h1 : 4 ≤ o) (h2 : o ≤ 18) : fm o 0 = 1 ∧ fm o 1 = 1 ∧ fm o 2 = 3 := by
  have : ∀ o : Fin 51, 4 ≤ o.val → o.val ≤ 18 → fm o.val 0 = 1 ∧ fm o.val 1 = 1 ∧ fm o.val 2 = 3 := by decide
  exact this ⟨o, by omega⟩ h1 h2
theorem o_J96 {z B n i N P b o : Nat} {t : Int32} {c0 m0 c m : St} (h : SI z B n i N t c0 m0 c m) (hX : PX B P b i N o c0 m0) (he : c.1 B 11 = 0) {r : Nat} (hk : kR c0 m0 P b i 0 r) (ho : 4 ≤ o) (ho2 : o ≤ 18) {va sa oa vb sb ob : Int32} (a0 : c.1 (B + 34) 0 = va) (a1 : c.1 (B + 34) 1 = sa) (a2 : c.1 (B + 34) 2 = oa) (b0 : c.1 (B + 35) 0 = vb) (b1 : c.1 (B + 35) 1 = sb) (b2 : c.1 (B + 35) 2 = ob) (hb : o = 7 ∨ o = 8 → vb ≠ 0) :
    ∃ c' m', f_Ma_compute_J133 B (nI o) c = some c' ∧ f_Mo_reckon_J96 (nI o) (nI r) va sa oa vb sb ob m = some m' ∧ SI z B n i N t c0 m0 c' m' := by
  obtain ⟨s, e1, e2⟩ := ru_shade (k0 := B + 34) (k1 := B + 35) (c := c) (m := m) (f := c.1 B 8) a0 a1 b0 b1 ((SI_29 h).trans (SI_8 h).symm) (by rw [SI_8 h]; exact hX.2.2.2.2.2.2.2.2.2.2.2.1) ho ho2
  obtain ⟨c', m', f1, f2, f3⟩ := o_J133 h hX he hk e1 (ru_origin a1 a2 b1 b2) rfl
  refine ⟨c', m', f1, ?_, f3⟩
  unfold f_Mo_reckon_J96
  rw [ru_value ho ho2 hb, e2]
  rw [a0, b0] at f2
  simp only [Option.bind_some, f2]
theorem o_reckon {z B n i N P b o : Nat} {t : Int32} {c0 m0 c m : St} (h : SI z B n i N t c0 m0 c m) (hX : PX B P b i N o c0 m0) (he : c.1 B 11 = 0) (ho : 4 ≤ o) (ho2 : o ≤ 18) :
    ∃ c' m', f_Ma_compute B (nI o) c = some c' ∧ f_Mo_reckon (nI o) (nI (600 * b + 3 * i)) m = some m' ∧ SI z B (n + 1) i N t c0 m0 c' m' := by
  obtain ⟨k0, k1, k2⟩ := fm_a ho ho2
  obtain ⟨r, hr⟩ := PX_R hX (by omega) k0
  obtain ⟨ra, hra⟩ := PX_R hX (by omega) k1
  have hkb := PX_E hX (by omega) k2
  obtain ⟨va, sa, oa, na, ea, xa, ya, za, _⟩ := rd_t h hX (by omega) hra (B + 34) (w := 1) rfl (x := nI (600 * b + 3 * i) + 1) (nI_1 _)
  have h1 := SI_ab h (k := B + 34) (.inl rfl) (v := va) (s := sa) (o := oa)
  obtain ⟨vb, sb, ob, nb, eb, xb, yb, zb⟩ := rd_e h1 hX (by omega) hkb (B + 35) (w := 2) rfl (x := nI (600 * b + 3 * i) + 2) (nI_add _ 2)
  have h2 := SI_ab h1 (k := B + 35) (.inr rfl) (v := vb) (s := sb) (o := ob)
  obtain ⟨g5, e5, _⟩ := rd_5 h hX (j := 0) (by omega) (x := nI (600 * b + 3 * i)) rfl
  have ha0 : (dP (dP c (B + 34) va sa oa) (B + 35) vb sb ob).1 (B + 34) 0 = va := by rw [dP_n0 (by omega), dP_0]
  have ha1 : (dP (dP c (B + 34) va sa oa) (B + 35) vb sb ob).1 (B + 34) 1 = sa := by rw [dP_n0 (by omega), dP_1]
  have ha2 : (dP (dP c (B + 34) va sa oa) (B + 35) vb sb ob).1 (B + 34) 2 = oa := by rw [dP_n0 (by omega), dP_2' na]
  have hb0 : (dP (dP c (B + 34) va sa oa) (B + 35) vb sb ob).1 (B + 35) 0 = vb := dP_0
  have hb1 : (dP (dP c (B + 34) va sa oa) (B + 35) vb sb ob).1 (B + 35) 1 = sb := dP_1
  have hb2 : (dP (dP c (B + 34) va sa oa) (B + 35) vb sb ob).1 (B + 35) 2 = ob := dP_2' nb
  have he2 : (dP (dP c (B + 34) va sa oa) (B + 35) vb sb ob).1 B 11 = 0 := by rw [dP_n0 (by omega), dP_n0 (by omega)]; exact he
  have eM : f_Mo_reckon (nI o) (nI (600 * b + 3 * i)) m = if nI o = 7 then f_Mo_reckon_J73 (nI o) (nI r) va sa oa vb sb ob m else if nI o = 8 then f_Mo_reckon_J73 (nI o) (nI r) va sa oa vb sb ob m else f_Mo_reckon_J96 (nI o) (nI r) va sa oa vb sb ob m := by
    unfold f_Mo_reckon
    rw [g5, xa, ya, za, xb, yb, zb, e5, hr.2.2.1]
    rfl
  have eC : f_Ma_compute B (nI o) c = f_Ma_compute_J96 B (nI o) (nI o) (dP (dP c (B + 34) va sa oa) (B + 35) vb sb ob) := by
    unfold f_Ma_compute
    rw [if_neg (show ¬ nI o = 0 from ne_l (k := 0) (by omega) (by omega) (by omega)), if_neg (show ¬ nI o = 3 from ne_l (k := 3) (by omega) (by omega) (by omega)), ea]
    simp only [Option.bind_some]
    rw [if_neg (show ¬ nI o < 4 from nI_nlt (b := 4) (by omega) (by omega)), if_neg (show ¬ 18 < nI o from nI_nlt (a := 18) (by omega) (by omega)), eb]
    rfl
  rw [eM, eC]
  unfold f_Ma_compute_J96
  generalize dP (dP c (B + 34) va sa oa) (B + 35) vb sb ob = c2 at h2 ha0 ha1 ha2 hb0 hb1 hb2 he2
  by_cases hd : o = 7 ∨ o = 8
  · have eM2 : (if nI o = 7 then f_Mo_reckon_J73 (nI o) (nI r) va sa oa vb sb ob m else if nI o = 8 then f_Mo_reckon_J73 (nI o) (nI r) va sa oa vb sb ob m else f_Mo_reckon_J96 (nI o) (nI r) va sa oa vb sb ob m) = f_Mo_reckon_J73 (nI o) (nI r) va sa oa vb sb ob m := by
      rcases hd with rfl | rfl
      · exact if_pos rfl
      · rw [if_neg (show ¬ nI 8 = 7 from by decide)]; exact if_pos rfl
    have eC2 : (if nI o = 7 then f_Ma_compute_J108 B (nI o) c2 else if nI o = 8 then f_Ma_compute_J108 B (nI o) c2 else f_Ma_compute_J133 B (nI o) c2) = f_Ma_compute_J108 B (nI o) c2 := by
      rcases hd with rfl | rfl
      · exact if_pos rfl
      · rw [if_neg (show ¬ nI 8 = 7 from by decide)]; exact if_pos rfl
    rw [eM2, eC2]
    obtain ⟨c3, m3, f1, f2, f3, f4⟩ := S_rep h2 (B + 35) 4 hb1 hb2
    have k34 : c3.1 (B + 34) = c2.1 (B + 34) := f4.1 _ (by omega)
    have k35 : c3.1 (B + 35) = c2.1 (B + 35) := f4.1 _ (by omega)
    have he3 : c3.1 B 11 = 0 := by rw [f4.1 B (by omega)]; exact he2
    have eM3 : f_Mo_reckon_J73 (nI o) (nI r) va sa oa vb sb ob m = f_Mo_reckon_J85 (nI o) (nI r) va sa oa vb sb ob m3 := f2 (fun s => f_Mo_reckon_J85 (nI o) (nI r) va sa oa vb sb ob s)
    rw [eM3]
    unfold f_Ma_compute_J108 f_Mo_reckon_J85
    rw [f1]
    simp only [Option.bind_some, k35, hb0]
    by_cases h0 : vb = 0
    · obtain ⟨c4, m4, g1, g2, g3⟩ := S_trap f3 he3 (v := 1) (by omega)
      refine ⟨c4, m4, ?_, ?_, g3⟩
      · rw [if_pos h0]; show (f_Ma_trap B (nI 1) c3).bind _ = _; rw [g1]; rfl
      · rw [if_pos h0]; show (f_Mo_trap (nI 1) m3).bind _ = _; rw [g2]; rfl
    · rw [if_neg h0, if_neg h0]
      exact o_J96 f3 hX he3 hr ho ho2 (by rw [k34]; exact ha0) (by rw [k34]; exact ha1) (by rw [k34]; exact ha2) (by rw [k35]; exact hb0) (by rw [k35]; exact hb1) (by rw [k35]; exact hb2) (fun _ => h0)
  · have n7 : ¬ nI o = 7 := ne_l (k := 7) (by omega) (by omega) (by omega)
    have n8 : ¬ nI o = 8 := ne_l (k := 8) (by omega) (by omega) (by omega)
    rw [if_neg n7, if_neg n8, if_neg n7, if_neg n8]
    obtain ⟨c', m', g1, g2, g3⟩ := o_J96 h2 hX he2 hr ho ho2 ha0 ha1 ha2 hb0 hb1 hb2 (fun h => absurd h hd)
    exact ⟨c', m', g1, g2, SI_mono g3 (by omega)⟩
theorem ru_sh1 {k1 k2 : Nat} {c : St} {v0 f s : Int32} (h : ∀ k, 4 ≤ k → k ≤ 18 → ¬ v0 = nI k) (hs : f_Ru_moved v0 (c.1 k1 1) 0 = s) : f_Ru_shade k1 k2 v0 f c = some s := by
  unfold f_Ru_shade
  rw [lt_eq, if_neg (show ¬ v0 = 4 from h 4 (by omega) (by omega)), if_neg (show ¬ v0 = 5 from h 5 (by omega) (by omega)), if_neg (show ¬ v0 = 6 from h 6 (by omega) (by omega)), if_neg (show ¬ v0 = 7 from h 7 (by omega) (by omega)), if_neg (show ¬ v0 = 8 from h 8 (by omega) (by omega)), if_neg (show ¬ v0 = 9 from h 9 (by omega) (by omega)), if_neg (show ¬ v0 = 10 from h 10 (by omega) (by omega)), if_neg (show ¬ v0 = 11 from h 11 (by omega) (by omega)), if_neg (show ¬ v0 = 12 from h 12 (by omega) (by omega)), if_neg (show ¬ v0 = 13 from h 13 (by omega) (by omega)), if_neg (show ¬ v0 = 14 from h 14 (by omega) (by omega)), if_neg (show ¬ v0 = 15 from h 15 (by omega) (by omega)), if_neg (show ¬ v0 = 16 from h 16 (by omega) (by omega)), if_neg (show ¬ v0 = 17 from h 17 (by omega) (by omega)), if_neg (show ¬ v0 = 18 from h 18 (by omega) (by omega)), hs]
theorem ru_vl1 {v0 a b v : Int32} (h2 : ¬ v0 = 2) (h : ∀ k, 4 ≤ k → k ≤ 18 → ¬ v0 = nI k) (hs : f_Ru_moved v0 a b = v) : f_Ru_value v0 a b = v := by
  unfold f_Ru_value f_Ru_value_J183
  rw [if_neg h2, if_neg (show ¬ v0 = 4 from h 4 (by omega) (by omega)), if_neg (show ¬ v0 = 5 from h 5 (by omega) (by omega)), if_neg (show ¬ v0 = 6 from h 6 (by omega) (by omega)), if_neg (show ¬ v0 = 7 from h 7 (by omega) (by omega)), if_neg (show ¬ v0 = 8 from h 8 (by omega) (by omega)), if_neg (show ¬ v0 = 9 from h 9 (by omega) (by omega)), if_neg (show ¬ v0 = 10 from h 10 (by omega) (by omega)), if_neg (show ¬ v0 = 11 from h 11 (by omega) (by omega)), if_neg (show ¬ v0 = 12 from h 12 (by omega) (by omega)), if_neg (show ¬ v0 = 13 from h 13 (by omega) (by omega)), if_neg (show ¬ v0 = 14 from h 14 (by omega) (by omega)), if_neg (show ¬ v0 = 15 from h 15 (by omega) (by omega)), if_neg (show ¬ v0 = 16 from h 16 (by omega) (by omega)), if_neg (show ¬ v0 = 17 from h 17 (by omega) (by omega)), if_neg (show ¬ v0 = 18 from h 18 (by omega) (by omega)), hs]
  exact ite_self _
theorem ru_vl2 {a b : Int32} : f_Ru_value (nI 2) a b = a ^^^ -1 := by unfold f_Ru_value; exact if_pos rfl
theorem nl_far {o : Nat} (h : o < 4 ∨ o = 19 ∨ o = 20) : ∀ k, 4 ≤ k → k ≤ 18 → ¬ nI o = nI k := fun k h1 h2 => ne_l (by omega) (by omega) (by omega)
theorem mv_1 {o : Nat} (h : o < 4) {a b : Int32} : f_Ru_moved (nI o) a b = a := by
  unfold f_Ru_moved
  rw [if_neg (show ¬ nI o = 12 from ne_l (k := 12) (by omega) (by omega) (by omega)), if_neg (show ¬ nI o = 13 from ne_l (k := 13) (by omega) (by omega) (by omega)), if_neg (show ¬ nI o = 14 from ne_l (k := 14) (by omega) (by omega) (by omega)), if_neg (show ¬ nI o = 19 from ne_l (k := 19) (by omega) (by omega) (by omega)), if_neg (show ¬ nI o = 20 from ne_l (k := 20) (by omega) (by omega) (by omega))]
  simp only [ite_self]
theorem mv_19 {a b : Int32} : f_Ru_moved (nI 19) a b = a.toInt8.toInt32 := by
  unfold f_Ru_moved
  rw [if_neg (show ¬ nI 19 = 12 by decide), if_neg (show ¬ nI 19 = 13 by decide), if_neg (show ¬ nI 19 = 14 by decide), if_neg (show ¬ nI 19 = 15 by decide), if_neg (show ¬ nI 19 = 16 by decide), if_neg (show ¬ nI 19 = 17 by decide), if_neg (show ¬ nI 19 = 18 by decide), if_pos (show nI 19 = 19 from rfl), sx8]
theorem mv_20 {a b : Int32} : f_Ru_moved (nI 20) a b = a.toInt16.toInt32 := by
  unfold f_Ru_moved
  rw [if_neg (show ¬ nI 20 = 12 by decide), if_neg (show ¬ nI 20 = 13 by decide), if_neg (show ¬ nI 20 = 14 by decide), if_neg (show ¬ nI 20 = 15 by decide), if_neg (show ¬ nI 20 = 16 by decide), if_neg (show ¬ nI 20 = 17 by decide), if_neg (show ¬ nI 20 = 18 by decide), if_neg (show ¬ nI 20 = 19 by decide), if_pos (show nI 20 = 20 from rfl), sx16]
theorem fm_b {o : Nat} (h : o = 1 ∨ o = 2 ∨ o = 3 ∨ o = 19 ∨ o = 20) : fm o 0 = 1 ∧ fm o 1 = 1 := by
  rcases h with rfl | rfl | rfl | rfl | rfl <;> decide
theorem o_set {z B n i N P b o : Nat} {t : Int32} {c0 m0 c m : St} (h : SI z B n i N t c0 m0 c m) (hX : PX B P b i N o c0 m0) (he : c.1 B 11 = 0) (o0 : o = 0) :
    ∃ c' m', f_Ma_compute B (nI o) c = some c' ∧ f_Mo_single (nI o) (nI (600 * b + 3 * i)) m = some m' ∧ SI z B n i N t c0 m0 c' m' := by
  obtain ⟨g5, e5, _⟩ := rd_5 h hX (j := 0) (by omega) (x := nI (600 * b + 3 * i)) rfl
  subst o0
  obtain ⟨r, hr⟩ := PX_R hX (j := 0) (by omega) rfl
  obtain ⟨w, hw⟩ := PX_N hX (j := 1) (by omega) rfl
  obtain ⟨x1, x2, x3⟩ := rd_n h hX (by omega) hw (x := nI (600 * b + 3 * i) + 1) (nI_1 _)
  obtain ⟨g6, e6, _⟩ := rd_5 h hX (j := 1) (by omega) (x := nI (600 * b + 3 * i) + 1) (nI_1 _)
  have h2 := SI_ab (SI_ab h (k := B + 34) (.inl rfl) (v := w) (s := 0) (o := 0)) (k := B + 35) (.inr rfl) (v := 0) (s := 0) (o := 0)
  have he2 : (dP (dP c (B + 34) w 0 0) (B + 35) 0 0 0).1 B 11 = 0 := by rw [dP_n0 (by omega), dP_n0 (by omega)]; exact he
  have a1 : (dP (dP c (B + 34) w 0 0) (B + 35) 0 0 0).1 (B + 34) 1 = 0 := by rw [dP_n0 (by omega), dP_1]
  have a2 : (dP (dP c (B + 34) w 0 0) (B + 35) 0 0 0).1 (B + 34) 2 = 0 := by rw [dP_n0 (by omega), dP_2]; rfl
  have b1 : (dP (dP c (B + 34) w 0 0) (B + 35) 0 0 0).1 (B + 35) 1 = 0 := dP_1
  have b2 : (dP (dP c (B + 34) w 0 0) (B + 35) 0 0 0).1 (B + 35) 2 = 0 := by rw [dP_2]; rfl
  have a0 : (dP (dP c (B + 34) w 0 0) (B + 35) 0 0 0).1 (B + 34) 0 = w := by rw [dP_n0 (by omega), dP_0]
  obtain ⟨c', m', f1, f2, f3⟩ := o_J133 h2 hX he2 hr (v2 := nI 0) (v := w) (s := 0) (og := 0) (ru_sh1 (nl_far (by omega)) (by rw [a1]; exact mv_1 (by omega))) (by simp [f_Ru_origin, f_Ru_origin_J30, a1, b1]) (ru_vl1 (by decide) (nl_far (by omega)) (by rw [a0]; exact mv_1 (by omega)))
  refine ⟨c', m', ?_, ?_, f3⟩
  · unfold f_Ma_compute f_Ma_compute_J96
    rw [if_pos (show nI 0 = 0 from rfl), rd_o h hX (j := 1) (by omega) (v := 1) rfl, hw.2.2]
    unfold f_Da_putSet
    simp only [Option.bind_some, da_put]
    rw [if_neg (show ¬ nI 0 = 7 by decide), if_neg (show ¬ nI 0 = 8 by decide)]
    exact f1
  · unfold f_Mo_single
    rw [g5, x1, x2, x3]
    simp only [lt, Option.bind_some]
    rw [if_pos (show nI 0 = 0 from rfl), g6, e6, e5, hr.2.2.1, hw.2.1, f2]; rfl
theorem o_neg {z B n i N P b o : Nat} {t : Int32} {c0 m0 c m : St} (h : SI z B n i N t c0 m0 c m) (hX : PX B P b i N o c0 m0) (he : c.1 B 11 = 0) (o3 : o = 3) :
    ∃ c' m', f_Ma_compute B (nI o) c = some c' ∧ f_Mo_single (nI o) (nI (600 * b + 3 * i)) m = some m' ∧ SI z B n i N t c0 m0 c' m' := by
  obtain ⟨g5, e5, _⟩ := rd_5 h hX (j := 0) (by omega) (x := nI (600 * b + 3 * i)) rfl
  subst o3
  obtain ⟨r, hr⟩ := PX_R hX (j := 0) (by omega) rfl
  obtain ⟨ra, hra⟩ := PX_R hX (j := 1) (by omega) rfl
  have h1 := SI_ab h (k := B + 34) (.inl rfl) (v := 0) (s := 0) (o := 0)
  obtain ⟨vb, sb, ob, nb, eb, xb, yb, zb, _⟩ := rd_t h1 hX (by omega) hra (B + 35) (w := 1) rfl (x := nI (600 * b + 3 * i) + 1) (nI_1 _)
  have h2 := SI_ab h1 (k := B + 35) (.inr rfl) (v := vb) (s := sb) (o := ob)
  have a0 : (dP (dP c (B + 34) 0 0 0) (B + 35) vb sb ob).1 (B + 34) 0 = 0 := by rw [dP_n0 (by omega), dP_0]
  have a1 : (dP (dP c (B + 34) 0 0 0) (B + 35) vb sb ob).1 (B + 34) 1 = 0 := by rw [dP_n0 (by omega), dP_1]
  have b0 : (dP (dP c (B + 34) 0 0 0) (B + 35) vb sb ob).1 (B + 35) 0 = vb := dP_0
  have b1 : (dP (dP c (B + 34) 0 0 0) (B + 35) vb sb ob).1 (B + 35) 1 = sb := dP_1
  have b2 : (dP (dP c (B + 34) 0 0 0) (B + 35) vb sb ob).1 (B + 35) 2 = ob := dP_2' nb
  have he2 : (dP (dP c (B + 34) 0 0 0) (B + 35) vb sb ob).1 B 11 = 0 := by rw [dP_n0 (by omega), dP_n0 (by omega)]; exact he
  have eC : f_Ma_compute B (nI 3) c = f_Ma_compute_J133 B 5 (dP (dP c (B + 34) 0 0 0) (B + 35) vb sb ob) := by
    unfold f_Ma_compute f_Ma_compute_J96
    rw [if_neg (show ¬ nI 3 = 0 by decide), if_pos (show nI 3 = 3 from rfl)]
    unfold f_Da_putSet
    simp only [Option.bind_some, da_put, eb]
    rw [if_neg (show ¬ nI 3 = 7 by decide), if_neg (show ¬ nI 3 = 8 by decide)]
  rw [eC]
  generalize dP (dP c (B + 34) 0 0 0) (B + 35) vb sb ob = c2 at h2 a0 a1 b0 b1 b2 he2
  obtain ⟨s, q1, q2⟩ := ru_shade (k0 := B + 34) (k1 := B + 35) (c := c2) (m := m) (f := c2.1 B 8) (o := 5) a0 a1 b0 b1 ((SI_29 h2).trans (SI_8 h2).symm) (by rw [SI_8 h2]; exact hX.2.2.2.2.2.2.2.2.2.2.2.1) (by omega) (by omega)
  have eo : f_Ru_origin (B + 34) (B + 35) c2 = some ob := by
    unfold f_Ru_origin f_Ru_origin_J30
    rw [a1, b1, b2, if_pos rfl, if_pos rfl]
    by_cases g : sb = 0
    · rw [if_pos g, nb g]
    · rw [if_neg g]
  obtain ⟨c', m', f1, f2, f3⟩ := o_J133 h2 hX he2 hr (v2 := 5) (v := -vb) (s := s) (og := ob) q1 eo (by rw [a0, b0]; unfold f_Ru_value; rw [if_neg (show ¬ (5 : Int32) = 2 by decide), if_neg (show ¬ (5 : Int32) = 3 by decide), if_neg (show ¬ (5 : Int32) = 4 by decide), if_pos rfl, Int32.zero_sub])
  refine ⟨c', m', f1, ?_, f3⟩
  unfold f_Mo_single
  rw [g5, xb, yb, zb, e5, hr.2.2.1]
  simp only [lt, Option.bind_some]
  have q3 : f_Mo_shadeOf 5 0 0 vb sb m = some s := q2
  rw [if_neg (show ¬ nI 3 = 0 by decide), if_neg (show ¬ nI 3 = 1 by decide), if_neg (show ¬ nI 3 = 2 by decide), if_pos (show nI 3 = 3 from rfl), q3]
  simp only [Option.bind_some, f2]
theorem o_one {z B n i N P b o : Nat} {t : Int32} {c0 m0 c m : St} (h : SI z B n i N t c0 m0 c m) (hX : PX B P b i N o c0 m0) (he : c.1 B 11 = 0) (ho4 : o = 1 ∨ o = 2 ∨ o = 19 ∨ o = 20) :
    ∃ c' m', f_Ma_compute B (nI o) c = some c' ∧ f_Mo_single (nI o) (nI (600 * b + 3 * i)) m = some m' ∧ SI z B n i N t c0 m0 c' m' := by
  obtain ⟨g5, e5, _⟩ := rd_5 h hX (j := 0) (by omega) (x := nI (600 * b + 3 * i)) rfl
  have ho' : o = 1 ∨ o = 2 ∨ o = 3 ∨ o = 19 ∨ o = 20 := by omega
  obtain ⟨k0, k1⟩ := fm_b ho'
  obtain ⟨r, hr⟩ := PX_R hX (by omega) k0
  obtain ⟨ra, hra⟩ := PX_R hX (by omega) k1
  obtain ⟨va, sa, oa, na, ea, xa, ya, za, _⟩ := rd_t h hX (by omega) hra (B + 34) (w := 1) rfl (x := nI (600 * b + 3 * i) + 1) (nI_1 _)
  have h1 := SI_ab h (k := B + 34) (.inl rfl) (v := va) (s := sa) (o := oa)
  have h2 := SI_ab h1 (k := B + 35) (.inr rfl) (v := 0) (s := 0) (o := 0)
  have a0 : (dP (dP c (B + 34) va sa oa) (B + 35) 0 0 0).1 (B + 34) 0 = va := by rw [dP_n0 (by omega), dP_0]
  have a1 : (dP (dP c (B + 34) va sa oa) (B + 35) 0 0 0).1 (B + 34) 1 = sa := by rw [dP_n0 (by omega), dP_1]
  have a2 : (dP (dP c (B + 34) va sa oa) (B + 35) 0 0 0).1 (B + 34) 2 = oa := by rw [dP_n0 (by omega), dP_2' na]
  have b1 : (dP (dP c (B + 34) va sa oa) (B + 35) 0 0 0).1 (B + 35) 1 = 0 := dP_1
  have he2 : (dP (dP c (B + 34) va sa oa) (B + 35) 0 0 0).1 B 11 = 0 := by rw [dP_n0 (by omega), dP_n0 (by omega)]; exact he
  have eC : f_Ma_compute B (nI o) c = f_Ma_compute_J133 B (nI o) (dP (dP c (B + 34) va sa oa) (B + 35) 0 0 0) := by
    unfold f_Ma_compute f_Ma_compute_J88 f_Ma_compute_J96 f_Da_putSet
    rw [if_neg (show ¬ nI o = 0 from ne_l (k := 0) (by omega) (by omega) (by omega)), if_neg (show ¬ nI o = 3 from ne_l (k := 3) (by omega) (by omega) (by omega)), ea]
    simp only [Option.bind_some, da_put]
    rw [if_neg (show ¬ nI o = 7 from ne_l (k := 7) (by omega) (by omega) (by omega)), if_neg (show ¬ nI o = 8 from ne_l (k := 8) (by omega) (by omega) (by omega))]
    by_cases g : o < 4
    · rw [if_pos (show nI o < 4 from nI_lt (b := 4) (by omega) (by omega))]
    · rw [if_neg (show ¬ nI o < 4 from nI_nlt (b := 4) (by omega) (by omega)), if_pos (show 18 < nI o from nI_lt (a := 18) (by omega) (by omega))]
  rw [eC]
  generalize dP (dP c (B + 34) va sa oa) (B + 35) 0 0 0 = c2 at h2 a0 a1 a2 b1 he2
  have eo : f_Ru_origin (B + 34) (B + 35) c2 = some oa := by
    unfold f_Ru_origin f_Ru_origin_J30
    rw [a1, b1, a2, if_pos rfl]
    by_cases g : sa = 0
    · rw [if_pos g, na g]
    · rw [if_neg g]
  have eM : f_Mo_single (nI o) (nI (600 * b + 3 * i)) m = if nI o = 1 then f_Mo_give (nI r) va sa oa m else if nI o = 2 then f_Mo_give (nI r) (va ^^^ -1) sa oa m else if nI o = 19 then f_Mo_give (nI r) va.toInt8.toInt32 sa.toInt8.toInt32 oa m else f_Mo_give (nI r) va.toInt16.toInt32 sa.toInt16.toInt32 oa m := by
    unfold f_Mo_single
    rw [g5, xa, ya, za, e5, hr.2.2.1, lt_eq, Option.bind_some, Option.bind_some, Option.bind_some]
    rw [if_neg (show ¬ nI o = 0 from ne_l (k := 0) (by omega) (by omega) (by omega)), if_neg (show ¬ nI o = 3 from ne_l (k := 3) (by omega) (by omega) (by omega))]
    rw [bind_rt, bind_rt, bind_rt, bind_rt]
  rw [eM]
  have ho2 : o = 1 ∨ o = 2 ∨ o = 19 ∨ o = 20 := by omega
  rcases ho2 with rfl | rfl | rfl | rfl
  · obtain ⟨c', m', f1, f2, f3⟩ := o_J133 h2 hX he2 hr (v2 := nI 1) (v := va) (s := sa) (og := oa) (ru_sh1 (nl_far (by omega)) (by rw [a1]; exact mv_1 (by omega))) eo (ru_vl1 (by decide) (nl_far (by omega)) (by rw [a0]; exact mv_1 (by omega)))
    exact ⟨c', m', f1, by rw [if_pos (show nI 1 = 1 from rfl)]; exact f2, f3⟩
  · obtain ⟨c', m', f1, f2, f3⟩ := o_J133 h2 hX he2 hr (v2 := nI 2) (v := va ^^^ -1) (s := sa) (og := oa) (ru_sh1 (nl_far (by omega)) (by rw [a1]; exact mv_1 (by omega))) eo (by rw [a0]; exact ru_vl2)
    exact ⟨c', m', f1, by rw [if_neg (show ¬ nI 2 = 1 by decide), if_pos (show nI 2 = 2 from rfl)]; exact f2, f3⟩
  · obtain ⟨c', m', f1, f2, f3⟩ := o_J133 h2 hX he2 hr (v2 := nI 19) (v := va.toInt8.toInt32) (s := sa.toInt8.toInt32) (og := oa) (ru_sh1 (nl_far (by omega)) (by rw [a1]; exact mv_19)) eo (ru_vl1 (by decide) (nl_far (by omega)) (by rw [a0]; exact mv_19))
    exact ⟨c', m', f1, by rw [if_neg (show ¬ nI 19 = 1 by decide), if_neg (show ¬ nI 19 = 2 by decide), if_pos (show nI 19 = 19 from rfl)]; exact f2, f3⟩
  · obtain ⟨c', m', f1, f2, f3⟩ := o_J133 h2 hX he2 hr (v2 := nI 20) (v := va.toInt16.toInt32) (s := sa.toInt16.toInt32) (og := oa) (ru_sh1 (nl_far (by omega)) (by rw [a1]; exact mv_20)) eo (ru_vl1 (by decide) (nl_far (by omega)) (by rw [a0]; exact mv_20))
    exact ⟨c', m', f1, by rw [if_neg (show ¬ nI 20 = 1 by decide), if_neg (show ¬ nI 20 = 2 by decide), if_neg (show ¬ nI 20 = 19 by decide)]; exact f2, f3⟩
/-- the six of one source -/
theorem o_single {z B n i N P b o : Nat} {t : Int32} {c0 m0 c m : St} (h : SI z B n i N t c0 m0 c m) (hX : PX B P b i N o c0 m0) (he : c.1 B 11 = 0) (ho : o = 0 ∨ o = 1 ∨ o = 2 ∨ o = 3 ∨ o = 19 ∨ o = 20) :
    ∃ c' m', f_Ma_compute B (nI o) c = some c' ∧ f_Mo_single (nI o) (nI (600 * b + 3 * i)) m = some m' ∧ SI z B n i N t c0 m0 c' m' := by
  by_cases o0 : o = 0
  · exact o_set h hX he o0
  · by_cases o3 : o = 3
    · exact o_neg h hX he o3
    · exact o_one h hX he (by omega)
