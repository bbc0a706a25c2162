/-! ===== the text, and the scanners' loops ===== -/
def TXM (L : Nat) (sg : Nat → Nat) (m : St) : Prop := L ≤ 3000 ∧ m.1 0 3 = nI L ∧ (∀ i, i < L → m.1 2 i &&& 255 = nI (sg i)) ∧ (∀ i, L ≤ i → sg i = 10) ∧ (∀ i, sg i < 256)
def TXC (L : Nat) (sg : Nat → Nat) (c : St) : Prop := L ≤ 3000 ∧ (∀ i, i < L → c.1 1 i = nI (sg i))
theorem TXM_of {L : Nat} {sg : Nat → Nat} {m m' : St} (h : TXM L sg m) (h0 : m'.1 0 3 = m.1 0 3) (h2 : m'.1 2 = m.1 2) : TXM L sg m' := by
  unfold TXM; rw [h0, h2]; exact h
theorem TXC_of {L : Nat} {sg : Nat → Nat} {c c' : St} (h : TXC L sg c) (h1 : c'.1 1 = c.1 1) : TXC L sg c' := by
  unfold TXC; rw [h1]; exact h
theorem TXM_u {L : Nat} {sg : Nat → Nat} {m : St} {j : Nat} {v : Int32} (h : TXM L sg m) (hj : j ≠ 3) : TXM L sg (uI m 0 j v) := TXM_of h (uI_o (by omega)) (uI_n (by omega))
theorem mo_sign {L : Nat} {sg : Nat → Nat} {m : St} (hT : TXM L sg m) {i : Nat} (hi : i < 2 ^ 31) : f_Mo_sign (nI i) m = some (nI (sg i)) := by
  obtain ⟨h1, h2, h3, h4, h5⟩ := hT
  unfold f_Mo_sign
  rw [h2]
  by_cases h : L ≤ i
  · rw [if_pos (nI_le h hi), h4 i h]; rfl
  · rw [if_neg (nI_ge (by omega) (by omega)), gd_nI (by omega) (by omega), nI_clamp hi, h3 i (by omega)]
def bya (sg : Nat → Nat) (e i : Nat) : Int32 := if i < e then nI (sg i) else -1
theorem sc_byte {L : Nat} {sg : Nat → Nat} {c : St} {e i : Nat} (hC : TXC L sg c) (he : e ≤ L) (h2 : c.1 3 2 = nI e) (hr : c.2.2 3 = 1) (hi : i < 2 ^ 31) : f_Sc_byteAt (nI i) c = some (bya sg e i) := by
  obtain ⟨h1, h3⟩ := hC
  unfold f_Sc_byteAt bya
  rw [h2]
  by_cases h : e ≤ i
  · rw [if_pos (nI_le h hi), if_neg (by omega)]
  · rw [if_neg (nI_ge (by omega) (by omega)), if_pos hr, gd_nI (by omega) (by omega), nI_clamp hi, h3 i (by omega), if_pos (by omega)]
def ltr (x : Nat) : Prop := 97 ≤ x ∧ x ≤ 122
def dgt (x : Nat) : Prop := 48 ≤ x ∧ x ≤ 57
def hxd (x : Nat) : Prop := dgt x ∨ (97 ≤ x ∧ x ≤ 102)
theorem f_ltr : ∀ x : Fin 256, f_Sc_isLetter (nI x.val) = (if 97 ≤ x.val ∧ x.val ≤ 122 then 1 else 0) ∧ f_Mo_isLetter (nI x.val) = (if 97 ≤ x.val ∧ x.val ≤ 122 then 1 else 0) := by decide +kernel
theorem f_dgt : ∀ x : Fin 256, f_Sc_isDigit (nI x.val) = (if 48 ≤ x.val ∧ x.val ≤ 57 then 1 else 0) ∧ f_Mo_isDigit (nI x.val) = (if 48 ≤ x.val ∧ x.val ≤ 57 then 1 else 0) := by decide +kernel
theorem f_wsg : ∀ x : Fin 256, f_Mo_isWordSign (nI x.val) = (if (97 ≤ x.val ∧ x.val ≤ 122) ∨ (48 ≤ x.val ∧ x.val ≤ 57) then 1 else 0) := by decide +kernel
def hxv (x : Nat) : Nat := if x ≤ 57 then x - 48 else x - 87
theorem f_hex : ∀ x : Fin 256, f_Sc_hexDigit (nI x.val) = if (48 ≤ x.val ∧ x.val ≤ 57) ∨ (97 ≤ x.val ∧ x.val ≤ 102) then nI (hxv x.val) else -1 := by decide +kernel
theorem ltr_y {x : Nat} (hx : x < 256) (h : ltr x) : f_Sc_isLetter (nI x) = 1 ∧ f_Mo_isLetter (nI x) = 1 := by
  obtain ⟨a, b⟩ := f_ltr ⟨x, hx⟩
  exact ⟨a.trans (if_pos h), b.trans (if_pos h)⟩
theorem ltr_n {x : Nat} (hx : x < 256) (h : ¬ ltr x) : f_Sc_isLetter (nI x) = 0 ∧ f_Mo_isLetter (nI x) = 0 := by
  obtain ⟨a, b⟩ := f_ltr ⟨x, hx⟩
  exact ⟨a.trans (if_neg h), b.trans (if_neg h)⟩
theorem dgt_y {x : Nat} (hx : x < 256) (h : dgt x) : f_Sc_isDigit (nI x) = 1 ∧ f_Mo_isDigit (nI x) = 1 := by
  obtain ⟨a, b⟩ := f_dgt ⟨x, hx⟩
  exact ⟨a.trans (if_pos h), b.trans (if_pos h)⟩
theorem dgt_n {x : Nat} (hx : x < 256) (h : ¬ dgt x) : f_Sc_isDigit (nI x) = 0 ∧ f_Mo_isDigit (nI x) = 0 := by
  obtain ⟨a, b⟩ := f_dgt ⟨x, hx⟩
  exact ⟨a.trans (if_neg h), b.trans (if_neg h)⟩
theorem wsg_y {x : Nat} (hx : x < 256) (h : ltr x ∨ dgt x) : f_Mo_isWordSign (nI x) = 1 := by
  have a := f_wsg ⟨x, hx⟩
  exact a.trans (if_pos h)
theorem wsg_n {x : Nat} (hx : x < 256) (h : ¬ (ltr x ∨ dgt x)) : f_Mo_isWordSign (nI x) = 0 := by
  have a := f_wsg ⟨x, hx⟩
  exact a.trans (if_neg h)
theorem hex_y {x : Nat} (hx : x < 256) (h : hxd x) : f_Sc_hexDigit (nI x) = nI (hxv x) := by
  have a := f_hex ⟨x, hx⟩
  exact a.trans (if_pos h)
theorem hex_n {x : Nat} (hx : x < 256) (h : ¬ hxd x) : f_Sc_hexDigit (nI x) = -1 := by
  have a := f_hex ⟨x, hx⟩
  exact a.trans (if_neg h)
theorem hxv_lt {x : Nat} (h : hxd x) : hxv x < 16 := by
  unfold hxd dgt at h; unfold hxv; split <;> omega
theorem wh_cnt {α β : Type} {f : α → Option (α ⊕ β)} {g : Nat → α} {b : β} {r : Nat} : ∀ d p, p + d = r → (∀ i, p ≤ i → i < r → f (g i) = some (.inl (g (i + 1)))) → f (g r) = some (.inr b) → wh f (g p) = some b
  | 0, p, hp, _, he => by
    obtain rfl : p = r := by omega
    exact wh_inr he
  | d + 1, p, hp, hs, he => (wh_inl (hs p (by omega) (by omega))).trans (wh_cnt d (p + 1) (by omega) (fun i a b => hs i (by omega) b) he)
theorem run_len {Q : Nat → Prop} {e : Nat} (he : ¬ Q e) : ∀ d p, p + d = e → ∃ r, p ≤ r ∧ r ≤ e ∧ (∀ i, p ≤ i → i < r → Q i) ∧ ¬ Q r
  | 0, p, hp => by
    obtain rfl : p = e := by omega
    exact ⟨p, Nat.le_refl _, Nat.le_refl _, fun i a b => by omega, he⟩
  | d + 1, p, hp => by
    by_cases h : Q p
    · obtain ⟨r, r1, r2, r3, r4⟩ := run_len he d (p + 1) (by omega)
      refine ⟨r, by omega, r2, fun i a b => ?_, r4⟩
      by_cases e : i = p
      · rw [e]; exact h
      · exact r3 i (by omega) b
    · exact ⟨p, Nat.le_refl _, by omega, fun i a b => by omega, h⟩
theorem bv_shor {w : Nat} (x y s : Nat) (hy : y < 2 ^ s) : (BitVec.ofNat w x <<< s) ||| BitVec.ofNat w y = BitVec.ofNat w (x * 2 ^ s + y) := by
  apply BitVec.eq_of_getLsbD_eq
  intro i hi
  rw [BitVec.getLsbD_or, BitVec.getLsbD_shiftLeft, BitVec.getLsbD_ofNat, BitVec.getLsbD_ofNat, BitVec.getLsbD_ofNat, ← Nat.shiftLeft_eq, Nat.shiftLeft_add_eq_or_of_lt hy, Nat.testBit_or, Nat.testBit_shiftLeft]
  have h2 : i - s < w := by omega
  by_cases h : i < s
  · simp [hi, h, Nat.not_le.mpr h]
  · simp [hi, h, h2, Nat.le_of_not_lt h]
theorem sh4 {x d : Nat} (hd : d < 16) : (nI x <<< (4 &&& 31)) ||| nI d = nI (x * 16 + d) := by
  apply Int32.toBitVec_inj.mp
  exact bv_shor (w := 32) x d 4 hd
theorem sh4L {x d : Nat} (hd : d < 16) : (lN x <<< ((4 : Int32).toInt64 &&& 63)) ||| (nI d).toInt64 = lN (x * 16 + d) := by
  rw [nI_l (by omega)]
  apply Int64.toBitVec_inj.mp
  exact bv_shor (w := 64) x d 4 hd
theorem sh8L {x d : Nat} (hd : d < 256) : (lN x <<< ((8 : Int32).toInt64 &&& 63)) ||| (nI d).toInt64 = lN (x * 256 + d) := by
  rw [nI_l (by omega)]
  apply Int64.toBitVec_inj.mp
  exact bv_shor (w := 64) x d 8 hd
/-- letters put together -/
def wn (sg : Nat → Nat) (q : Nat) : Nat → Nat
  | 0 => 0
  | k + 1 => wn sg q k * 256 + sg (q + k)
theorem uJ_v {s : St} {k j : Nat} {v : Int64} : (uJ s k j v).2.1 k j = v := by simp [uJ, va_up, vp_updL]
theorem uJ_o {s : St} {k j j' : Nat} {v : Int64} (h : j' ≠ j) : (uJ s k j v).2.1 k j' = s.2.1 k j' := by simp [uJ, va_up, vp_updL, h]
theorem uJ_uI {s : St} {k j k' j' : Nat} {v : Int32} {w : Int64} : uJ (uI s k j v) k' j' w = uI (uJ s k' j' w) k j v := rfl
theorem uJ_uJ {s : St} {k j : Nat} {v w : Int64} : uJ (uJ s k j v) k j w = uJ s k j w := by
  unfold uJ
  have : va_up (va_up s.2.1 k (vp_updL (s.2.1 k) j v)) k (vp_updL (va_up s.2.1 k (vp_updL (s.2.1 k) j v) k) j w) = va_up s.2.1 k (vp_updL (s.2.1 k) j w) := by
    funext a b
    by_cases h : a = k
    · subst h
      simp only [va_up, if_true, vp_updL]
      by_cases h2 : b = j
      · rw [if_pos h2, if_pos h2]
      · rw [if_neg h2, if_neg h2, if_neg h2]
    · simp only [va_up, if_neg h]
  rw [this]
/-- the class's blanks -/
theorem sc_skip {L : Nat} {sg : Nat → Nat} {c : St} {e p q : Nat} (hC : TXC L sg c) (he : e ≤ L) (h2 : c.1 3 2 = nI e) (hr : c.2.2 3 = 1) (h1 : c.1 3 1 = nI p) (hpq : p ≤ q) (hqe : q ≤ e) (hs : ∀ i, p ≤ i → i < q → sg i = 32) (hn : q < e → sg q ≠ 32) (h256 : ∀ i, sg i < 256) : wh (fun a : St => f_Sc_readPiece_L0 a) c = some (uI c 3 1 (nI q)) := by
  have hL := hC.1
  have e0 : c = uI c 3 1 (nI p) := (uI_same h1).symm
  have st : ∀ i, p ≤ i → i < q → f_Sc_readPiece_L0 (uI c 3 1 (nI i)) = some (.inl (uI c 3 1 (nI (i + 1)))) := by
    intro i a b
    unfold f_Sc_readPiece_L0
    rw [uI_v, uI_o (by omega), h2, if_neg (nI_ge (by omega) (by omega)), if_pos (show (uI c 3 1 (nI i)).2.2 3 = 1 from hr), gd_nI (by omega) (by omega), nI_clamp (by omega), uI_n (by omega), hC.2 i (by omega), hs i a b, if_pos (show nI 32 = 32 from rfl), lt_eq, nI_1, uI_uI]
  have en : f_Sc_readPiece_L0 (uI c 3 1 (nI q)) = some (.inr (uI c 3 1 (nI q))) := by
    unfold f_Sc_readPiece_L0
    rw [uI_v, uI_o (by omega), h2]
    by_cases hq : e ≤ q
    · rw [if_pos (nI_le hq (by omega))]
    · have h3 := hn (by omega)
      have h4 := h256 q
      rw [if_neg (nI_ge (by omega) (by omega)), if_pos (show (uI c 3 1 (nI q)).2.2 3 = 1 from hr), gd_nI (by omega) (by omega), nI_clamp (by omega), uI_n (by omega), hC.2 q (by omega), if_neg (show ¬ nI (sg q) = 32 from ne_l (k := 32) (by omega) (by omega) h3)]
  rw [show wh (fun a : St => f_Sc_readPiece_L0 a) c = wh (fun a : St => f_Sc_readPiece_L0 a) (uI c 3 1 (nI p)) from congrArg _ e0]
  exact wh_cnt (g := fun i => uI c 3 1 (nI i)) (r := q) (q - p) p (by omega) st en
/-- a run of the reference's place j over signs with a property -/
theorem mo_run {L : Nat} {sg : Nat → Nat} {m : St} {j p q : Nat} {f : St → Option (St ⊕ St)} (hT : TXM L sg m) (hj : j ≠ 3) (h1 : m.1 0 j = nI p) (hpq : p ≤ q)
    (hs : ∀ i, p ≤ i → i < q → f (uI m 0 j (nI i)) = some (.inl (uI m 0 j (nI (i + 1))))) (en : f (uI m 0 j (nI q)) = some (.inr (uI m 0 j (nI q)))) : wh f m = some (uI m 0 j (nI q)) := by
  have e0 : m = uI m 0 j (nI p) := (uI_same h1).symm
  rw [show wh f m = wh f (uI m 0 j (nI p)) from congrArg _ e0]
  exact wh_cnt (g := fun i => uI m 0 j (nI i)) (r := q) (q - p) p (by omega) hs en
theorem mo_skip {L : Nat} {sg : Nat → Nat} {m : St} {p q : Nat} (hT : TXM L sg m) (h1 : m.1 0 25 = nI p) (hpq : p ≤ q) (hq : q < 2 ^ 30) (hs : ∀ i, p ≤ i → i < q → sg i = 32) (hn : sg q ≠ 32) : wh (fun a : St => f_Mo_next_L8 a) m = some (uI m 0 25 (nI q)) := by
  refine mo_run hT (by omega) h1 hpq (fun i a b => ?_) ?_
  · show f_Mo_next_L8 (uI m 0 25 (nI i)) = _
    unfold f_Mo_next_L8
    rw [uI_v, mo_sign (TXM_u hT (by omega)) (by omega), Option.bind_some, hs i a b, if_pos (show nI 32 = 32 from rfl), lt_eq, nI_1, uI_uI]
  · show f_Mo_next_L8 (uI m 0 25 (nI q)) = _
    have h4 := hT.2.2.2.2 q
    unfold f_Mo_next_L8
    rw [uI_v, mo_sign (TXM_u hT (by omega)) (by omega), Option.bind_some, if_neg (show ¬ nI (sg q) = 32 from ne_l (k := 32) (by omega) (by omega) hn)]
theorem mo_toEnd {L : Nat} {sg : Nat → Nat} {m : St} {p q : Nat} (hT : TXM L sg m) (h1 : m.1 0 25 = nI p) (hpq : p ≤ q) (hq : q < 2 ^ 30) (hs : ∀ i, p ≤ i → i < q → sg i ≠ 10) (hn : sg q = 10) : wh (fun a : St => f_Mo_next_L49 a) m = some (uI m 0 25 (nI q)) := by
  refine mo_run hT (by omega) h1 hpq (fun i a b => ?_) ?_
  · show f_Mo_next_L49 (uI m 0 25 (nI i)) = _
    have h4 := hT.2.2.2.2 i
    unfold f_Mo_next_L49
    rw [uI_v, mo_sign (TXM_u hT (by omega)) (by omega), Option.bind_some, if_neg (show ¬ nI (sg i) = 10 from ne_l (k := 10) (by omega) (by omega) (hs i a b)), lt_eq, nI_1, uI_uI]
  · show f_Mo_next_L49 (uI m 0 25 (nI q)) = _
    unfold f_Mo_next_L49
    rw [uI_v, mo_sign (TXM_u hT (by omega)) (by omega), Option.bind_some, hn, if_pos (show nI 10 = 10 from rfl)]
theorem mo_wordEnd {L : Nat} {sg : Nat → Nat} {m : St} {p q : Nat} (hT : TXM L sg m) (h1 : m.1 0 26 = nI p) (hpq : p ≤ q) (hq : q < 2 ^ 30) (hs : ∀ i, p ≤ i → i < q → (ltr (sg i) ∨ dgt (sg i))) (hn : ¬ (ltr (sg q) ∨ dgt (sg q))) : wh (fun a : St => f_Mo_next_L123 a) m = some (uI m 0 26 (nI q)) := by
  refine mo_run hT (by omega) h1 hpq (fun i a b => ?_) ?_
  · show f_Mo_next_L123 (uI m 0 26 (nI i)) = _
    unfold f_Mo_next_L123
    rw [uI_v, mo_sign (TXM_u hT (by omega)) (by omega), Option.bind_some, wsg_y (hT.2.2.2.2 i) (hs i a b), if_neg (by decide), lt_eq, nI_1, uI_uI]
  · show f_Mo_next_L123 (uI m 0 26 (nI q)) = _
    unfold f_Mo_next_L123
    rw [uI_v, mo_sign (TXM_u hT (by omega)) (by omega), Option.bind_some, wsg_n (hT.2.2.2.2 q) hn, if_pos rfl]
/-- the class's letters -/
theorem sc_word {L : Nat} {sg : Nat → Nat} {c : St} {e q r : Nat} (hC : TXC L sg c) (he : e ≤ L) (h2 : c.1 3 2 = nI e) (hr : c.2.2 3 = 1) (h1 : c.1 3 1 = nI q) (hqr : q ≤ r) (hre : r ≤ e) (h256 : ∀ i, sg i < 256) (hs : ∀ i, q ≤ i → i < r → (ltr (sg i) ∨ dgt (sg i))) (hn : r < e → ¬ (ltr (sg r) ∨ dgt (sg r))) : wh (fun a : St => f_Sc_readWord_L5 a) (uJ c 3 5 0) = some (uI (uJ c 3 5 (lN (wn sg q (r - q)))) 3 1 (nI r)) := by
  have hL := hC.1
  obtain ⟨g, hg⟩ : ∃ g : Nat → St, g = fun i => uI (uJ c 3 5 (lN (wn sg q (i - q)))) 3 1 (nI i) := ⟨_, rfl⟩
  have gi : ∀ i, g i = uI (uJ c 3 5 (lN (wn sg q (i - q)))) 3 1 (nI i) := fun i => by rw [hg]
  have e0 : uJ c 3 5 0 = g q := by
    rw [gi, Nat.sub_self, uI_same (show (uJ c 3 5 (lN (wn sg q 0))).1 3 1 = nI q from h1)]; rfl
  have a1 : ∀ i, (g i).1 3 1 = nI i := fun i => by rw [gi, uI_v]
  have a2 : ∀ i, (g i).1 3 2 = nI e := fun i => by rw [gi, uI_o (by omega)]; exact h2
  have a3 : ∀ i, (g i).2.2 3 = 1 := fun i => by rw [gi]; exact hr
  have a4 : ∀ i, (g i).1 1 = c.1 1 := fun i => by rw [gi, uI_n (by omega)]; rfl
  have a5 : ∀ i, (g i).2.1 3 5 = lN (wn sg q (i - q)) := fun i => by rw [gi]; exact uJ_v
  have J : ∀ i, q ≤ i → i < e → f_Sc_readWord_J46_1 (g i) = some (.inl (g (i + 1))) := by
    intro i a b
    unfold f_Sc_readWord_J46_1
    rw [if_pos (a3 i), a1, gd_nI (by omega) (by omega), nI_clamp (by omega), a4, a5, hC.2 i (by omega), sh8L (h256 i), lt_eq, lt_eq, uJ_11, a1, nI_1, gi i, uJ_uI, uJ_uJ, uI_uI, gi (i + 1)]
    rw [show i + 1 - q = (i - q) + 1 by omega]
    show _ = some (Sum.inl (uI (uJ c 3 5 (lN (wn sg q (i - q) * 256 + sg (q + (i - q))))) 3 1 (nI (i + 1))))
    rw [show q + (i - q) = i by omega]
  have st : ∀ i, q ≤ i → i < r → f_Sc_readWord_L5 (g i) = some (.inl (g (i + 1))) := by
    intro i a b
    unfold f_Sc_readWord_L5
    rw [a1, a2, if_neg (nI_ge (by omega) (by omega)), if_pos (a3 i), gd_nI (by omega) (by omega), nI_clamp (by omega), a4, hC.2 i (by omega), J i a (by omega)]
    by_cases hl : ltr (sg i)
    · rw [(ltr_y (h256 i) hl).1, if_neg (by decide)]
    · rw [(ltr_n (h256 i) hl).1, if_pos rfl, if_pos (a3 i), gd_nI (by omega) (by omega), (dgt_y (h256 i) ((hs i a b).resolve_left hl)).1, if_neg (by decide)]
  have en : f_Sc_readWord_L5 (g r) = some (.inr (g r)) := by
    unfold f_Sc_readWord_L5
    rw [a1, a2]
    by_cases hq : e ≤ r
    · rw [if_pos (nI_le hq (by omega))]
    · have h3 := hn (by omega)
      rw [if_neg (nI_ge (by omega) (by omega)), if_pos (a3 r), gd_nI (by omega) (by omega), nI_clamp (by omega), a4, hC.2 r (by omega), (ltr_n (h256 r) (fun h => h3 (.inl h))).1, if_pos rfl, if_pos (a3 r), gd_nI (by omega) (by omega), (dgt_n (h256 r) (fun h => h3 (.inr h))).1, if_pos rfl]
  rw [e0, ← gi r]
  exact wh_cnt (g := g) (r := r) (r - q) q (by omega) st en
