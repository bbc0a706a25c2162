/-! ===== feed ===== -/
def ly1 (v : Int32) (i : Nat) (s : St) (t : Nat) : St := uI (uI s 1 t (shv v i &&& 255)) 0 1 (nI (t + 1))
theorem ly1_1 {v : Int32} {i t x : Nat} {s : St} : (ly1 v i s t).1 1 x = if x = t then shv v i &&& 255 else s.1 1 x := by
  unfold ly1; rw [uI_n (by omega), uI_g2]
  by_cases h : x = t
  · rw [if_pos ⟨rfl, h⟩, if_pos h]
  · rw [if_neg (fun e => h e.2), if_neg h]
theorem ly1_n {v : Int32} {i t k : Nat} {s : St} (h : 2 ≤ k) : (ly1 v i s t).1 k = s.1 k := by
  unfold ly1; rw [uI_n (by omega), uI_n (by omega)]
theorem ly1_0 {v : Int32} {i t j : Nat} {s : St} (h : j ≠ 1) : (ly1 v i s t).1 0 j = s.1 0 j := by
  unfold ly1; rw [uI_o (by omega), uI_n (by omega)]
theorem ly_step {v n : Int32} {s : St} {t i : Nat} (ht : s.1 0 1 = nI t) (h : t < 4000) (hi : i < 4) (hn : 8 * nI i + -8 = n) : f_SB_layOnTape_L3 v (8 * nI i) s = some (.inl (n, ly1 v i s t)) := by
  have h0 : ¬ (8 * nI i : Int32) < 0 := by
    rw [show (8 : Int32) = nI 8 from rfl, nI_mul]; exact nI_pos (by omega)
  unfold f_SB_layOnTape_L3
  rw [if_neg h0, ht, gd_nI h (by omega), nI_clamp (by omega), lt_eq, lt_eq, uI_n (show (0 : Nat) ≠ 1 by omega), ht, nI_1, hn]
  rfl
theorem ly_word {v : Int32} {s : St} {t : Nat} (ht : s.1 0 1 = nI t) (h : t + 4 ≤ 4000) : f_SB_layOnTape v s = some (ly1 v 0 (ly1 v 1 (ly1 v 2 (ly1 v 3 s t) (t + 1)) (t + 2)) (t + 3)) := by
  have e : ∀ (u : St) (i x : Nat), (ly1 v i u x).1 0 1 = nI (x + 1) := fun u i x => uI_v
  have h1 := wh_inl (f := fun a : (Int32 × St) => f_SB_layOnTape_L3 v a.1 a.2) (a := (8 * nI 3, s)) (ly_step (n := 8 * nI 2) ht (by omega) (by omega) (by decide))
  have h2 := wh_inl (f := fun a : (Int32 × St) => f_SB_layOnTape_L3 v a.1 a.2) (a := (8 * nI 2, ly1 v 3 s t)) (ly_step (n := 8 * nI 1) (e s 3 t) (by omega) (by omega) (by decide))
  have h3 := wh_inl (f := fun a : (Int32 × St) => f_SB_layOnTape_L3 v a.1 a.2) (a := (8 * nI 1, ly1 v 2 (ly1 v 3 s t) (t + 1))) (ly_step (n := 8 * nI 0) (e _ 2 (t + 1)) (by omega) (by omega) (by decide))
  have h4 := wh_inl (f := fun a : (Int32 × St) => f_SB_layOnTape_L3 v a.1 a.2) (a := (8 * nI 0, ly1 v 1 (ly1 v 2 (ly1 v 3 s t) (t + 1)) (t + 2))) (ly_step (n := -8) (e _ 1 (t + 2)) (by omega) (by omega) (by decide))
  have h5 : wh (fun a : (Int32 × St) => f_SB_layOnTape_L3 v a.1 a.2) (-8, ly1 v 0 (ly1 v 1 (ly1 v 2 (ly1 v 3 s t) (t + 1)) (t + 2)) (t + 3)) = some (-8, ly1 v 0 (ly1 v 1 (ly1 v 2 (ly1 v 3 s t) (t + 1)) (t + 2)) (t + 3)) := by
    refine wh_inr ?_
    show f_SB_layOnTape_L3 v (-8) _ = _
    unfold f_SB_layOnTape_L3
    rw [if_pos (by decide)]
  unfold f_SB_layOnTape
  rw [show (24 : Int32) = 8 * nI 3 by decide, h1, h2, h3, h4, h5, Option.bind_some]
def LYp (s s' : St) (t n : Nat) (W : Nat → Int32) : Prop := s'.1 0 1 = nI (t + n) ∧ (∀ i, i < n → s'.1 1 (t + i) = W i) ∧ (∀ i, i < t → s'.1 1 i = s.1 1 i) ∧ (∀ k, 2 ≤ k → s'.1 k = s.1 k) ∧ (∀ j, j ≠ 1 → s'.1 0 j = s.1 0 j) ∧ s'.2 = s.2
theorem LY_app {s s1 : St} {t n : Nat} {W : Nat → Int32} (h : LYp s s1 t n W) {v : Int32} (hn : t + n + 4 ≤ 4000) (hW : ∀ j, j < 4 → W (n + j) = shv v (3 - j) &&& 255) : ∃ s2, f_SB_layOnTape v s1 = some s2 ∧ LYp s s2 t (n + 4) W := by
  obtain ⟨h1, h2, h3, h4, h5, h6⟩ := h
  refine ⟨_, ly_word h1 (by omega), uI_v, fun i hi => ?_, fun i hi => ?_, fun k hk => ?_, fun j hj => ?_, ?_⟩
  · rw [ly1_1, ly1_1, ly1_1, ly1_1]
    by_cases hi' : i < n
    · rw [if_neg (by omega), if_neg (by omega), if_neg (by omega), if_neg (by omega)]; exact h2 i hi'
    · have hc : i = n ∨ i = n + 1 ∨ i = n + 2 ∨ i = n + 3 := by omega
      rcases hc with rfl | rfl | rfl | rfl
      · rw [if_neg (by omega), if_neg (by omega), if_neg (by omega), if_pos (by omega)]; exact (hW 0 (by omega)).symm
      · rw [if_neg (by omega), if_neg (by omega), if_pos (by omega)]; exact (hW 1 (by omega)).symm
      · rw [if_neg (by omega), if_pos (by omega)]; exact (hW 2 (by omega)).symm
      · rw [if_pos (by omega)]; exact (hW 3 (by omega)).symm
  · rw [ly1_1, ly1_1, ly1_1, ly1_1, if_neg (by omega), if_neg (by omega), if_neg (by omega), if_neg (by omega)]; exact h3 i hi
  · rw [ly1_n hk, ly1_n hk, ly1_n hk, ly1_n hk]; exact h4 k hk
  · rw [ly1_0 hj, ly1_0 hj, ly1_0 hj, ly1_0 hj]; exact h5 j hj
  · exact h6
def fw (a b c d e : Int32) (k : Nat) : Int32 := if k < 4 then a else if k < 8 then b else if k < 12 then c else if k < 16 then d else e
def fbC (a b c d e : Int32) (k : Nat) : Int32 := shv (fw a b c d e k) (3 - k % 4) &&& 255
theorem sb_feed {a b c d e : Int32} {s : St} {t : Nat} (ht : s.1 0 1 = nI t) (h : t + 20 ≤ 4000) : ∃ s', f_SB_feed a b c d e s = some (nI (t + 20), s') ∧ LYp s s' t 20 (fbC a b c d e) := by
  have h0 : LYp s s t 0 (fbC a b c d e) := ⟨ht, fun i hi => absurd hi (by omega), fun _ _ => rfl, fun _ _ => rfl, fun _ _ => rfl, rfl⟩
  have q : ∀ n v, n % 4 = 0 → (∀ j, j < 4 → fw a b c d e (n + j) = v) → ∀ j, j < 4 → fbC a b c d e (n + j) = shv v (3 - j) &&& 255 := by
    intro n v hn hv j hj
    unfold fbC
    rw [hv j hj, show (n + j) % 4 = j by omega]
  obtain ⟨s1, e1, h1⟩ := LY_app h0 (v := a) (by omega) (q 0 a (by omega) (fun j hj => by unfold fw; rw [if_pos (by omega)]))
  obtain ⟨s2, e2, h2⟩ := LY_app h1 (v := b) (by omega) (q 4 b (by omega) (fun j hj => by unfold fw; rw [if_neg (by omega), if_pos (by omega)]))
  obtain ⟨s3, e3, h3⟩ := LY_app h2 (v := c) (by omega) (q 8 c (by omega) (fun j hj => by unfold fw; rw [if_neg (by omega), if_neg (by omega), if_pos (by omega)]))
  obtain ⟨s4, e4, h4⟩ := LY_app h3 (v := d) (by omega) (q 12 d (by omega) (fun j hj => by unfold fw; rw [if_neg (by omega), if_neg (by omega), if_neg (by omega), if_pos (by omega)]))
  obtain ⟨s5, e5, h5⟩ := LY_app h4 (v := e) (by omega) (q 16 e (by omega) (fun j hj => by unfold fw; rw [if_neg (by omega), if_neg (by omega), if_neg (by omega), if_neg (by omega)]))
  refine ⟨s5, ?_, h5⟩
  unfold f_SB_feed
  rw [ht, show (20 : Int32) = nI 20 from rfl, nI_add, if_pos (show nI (t + 20) ≤ 4000 from nI_le (b := 4000) (by omega) (by decide)), e1, Option.bind_some, e2, Option.bind_some, e3, Option.bind_some, e4, Option.bind_some, e5, Option.bind_some, h5.1]
/-- a byte as the reference keeps it -/
theorem nar_byte (x : Int32) : vp_nar .byte x = x.toInt8.toInt32 := rfl
theorem b8_255 (x : Int32) : x.toInt8.toInt32 &&& 255 = x &&& 255 := by
  apply Int32.toBitVec_inj.mp
  rw [Int32.toBitVec_and, Int32.toBitVec_and, Int8.toBitVec_toInt32, Int32.toBitVec_toInt8]
  generalize x.toBitVec = y
  show _ &&& 255#32 = _ &&& 255#32
  rw [BitVec.signExtend_eq_setWidth_of_le y (by decide : 8 ≤ 32)]
  ext i hi
  rw [BitVec.getElem_and, BitVec.getElem_and]
  by_cases h : i < 8
  · rw [BitVec.getElem_signExtend, dif_pos h, BitVec.getElem_setWidth, BitVec.getLsbD_eq_getElem hi]
  · have : (255#32)[i] = false := by
      rw [← BitVec.getLsbD_eq_getElem]
      exact b255 ⟨i, hi⟩ (by show 8 ≤ i; omega)
    rw [this, Bool.and_false, Bool.and_false]
def fbM (w : Int32) (k : Nat) : Int32 := vp_nar .byte (((w >>> ((24 - (8 * (nI k &&& 3))) &&& 31)) : Int32).toInt8.toInt32)
theorem fbM_byte {w : Int32} {k : Nat} : (fbM w k).toInt8.toInt32 = fbM w k := by
  unfold fbM
  simp only [nar_byte, Int8.toInt8_toInt32]
theorem fb_sh : ∀ k : Fin 20, (24 - (8 * (nI k.val &&& 3))) &&& 31 = ((8 * nI (3 - k.val % 4)) &&& 31 : Int32) := by decide
theorem fb_eq {w : Int32} {k : Nat} (hk : k < 20) : shv w (3 - k % 4) &&& 255 = fbM w k &&& 255 := by
  unfold fbM
  rw [nar_byte, b8_255, b8_255, fb_sh ⟨k, hk⟩]
  exact sh_eq w (i := 3 - k % 4) (by omega)
theorem it1_1 {K : Nat} {g : Nat → Int32} {s : St} {a y : Nat} : ∀ n, (itN (fun t x => uI t K x (g x)) s a n).1 K y = if a ≤ y ∧ y < a + n then g y else s.1 K y
  | 0 => by rw [if_neg (by omega)]; rfl
  | n + 1 => by
    show (uI (itN _ s a n) K (a + n) (g (a + n))).1 K y = _
    rw [uI_g2, it1_1 n]
    by_cases h : y = a + n
    · rw [if_pos ⟨rfl, h⟩, if_pos (by omega), h]
    · rw [if_neg (fun e => h e.2)]
      by_cases h2 : a ≤ y ∧ y < a + n
      · rw [if_pos h2, if_pos (by omega)]
      · rw [if_neg h2, if_neg (by omega)]
theorem it1_n {K : Nat} {g : Nat → Int32} {s : St} {a k : Nat} (hk : k ≠ K) : ∀ n, (itN (fun t x => uI t K x (g x)) s a n).1 k = s.1 k
  | 0 => rfl
  | n + 1 => by
    show (uI (itN _ s a n) K (a + n) (g (a + n))).1 k = _
    rw [uI_n hk]; exact it1_n hk n
theorem it1_2 {K : Nat} {g : Nat → Int32} {s : St} {a : Nat} : ∀ n, (itN (fun t x => uI t K x (g x)) s a n).2 = s.2
  | 0 => rfl
  | n + 1 => by
    show (uI (itN _ s a n) K (a + n) (g (a + n))).2 = _
    rw [uI_2]; exact it1_2 n
theorem mf_step {a b c d e : Int32} {s : St} {t k : Nat} (ht : s.1 0 1 = nI t) (h : t + 20 ≤ 4000) (hk : k < 20) : f_Mo_feed_L18 a b c d e (nI k) s = some (.inl (nI (k + 1), uI s 1 (t + k) (fbM (fw a b c d e k) k))) := by
  have J : ∀ w, f_Mo_feed_J71_1 a b c d e (nI k) w s = some (.inl (nI (k + 1), uI s 1 (t + k) (fbM w k))) := by
    intro w
    unfold f_Mo_feed_J71_1
    rw [ht, nI_add, gd_nI (by omega) (by omega), nI_clamp (by omega), lt_eq, nI_1]
    rfl
  unfold f_Mo_feed_L18 fw
  rw [if_neg (show ¬ 20 ≤ nI k from nI_ge (b := 20) hk (by decide))]
  simp only [J]
  by_cases h4 : k < 4
  · rw [if_neg (show ¬ 4 ≤ nI k from nI_ge (b := 4) h4 (by decide)), if_pos h4]
  rw [if_pos (show 4 ≤ nI k from nI_le (a := 4) (by omega) (by omega)), if_neg h4]
  by_cases h8 : k < 8
  · rw [if_neg (show ¬ 8 ≤ nI k from nI_ge (b := 8) h8 (by decide)), if_pos h8]
  rw [if_pos (show 8 ≤ nI k from nI_le (a := 8) (by omega) (by omega)), if_neg h8]
  by_cases h12 : k < 12
  · rw [if_neg (show ¬ 12 ≤ nI k from nI_ge (b := 12) h12 (by decide)), if_pos h12]
  rw [if_pos (show 12 ≤ nI k from nI_le (a := 12) (by omega) (by omega)), if_neg h12]
  by_cases h16 : k < 16
  · rw [if_neg (show ¬ 16 ≤ nI k from nI_ge (b := 16) h16 (by decide)), if_pos h16]
  rw [if_pos (show 16 ≤ nI k from nI_le (a := 16) (by omega) (by omega)), if_neg h16]
theorem mo_feed {a b c d e : Int32} {s : St} {t : Nat} (ht : s.1 0 1 = nI t) (h : t + 20 ≤ 4000) : ∃ s', f_Mo_feed a b c d e s = some (nI (t + 20), s') ∧ LYp s s' t 20 (fun k => fbM (fw a b c d e k) k) := by
  obtain ⟨g, hg⟩ : ∃ g : Nat → Int32, g = fun x => fbM (fw a b c d e (x - t)) (x - t) := ⟨_, rfl⟩
  have gi : ∀ i, g (t + i) = fbM (fw a b c d e i) i := by
    intro i
    rw [hg]
    show fbM (fw a b c d e (t + i - t)) (t + i - t) = _
    rw [show t + i - t = i by omega]
  have hw := wh_it (L := fun q : Int32 × St => f_Mo_feed_L18 a b c d e q.1 q.2) (f := fun u x => uI u 1 x (g x)) (s := s) (a := t) 0 20 (fun u => u.1 0 1 = nI t) ht
    (fun u i hi hu => ⟨by
      rw [Nat.zero_add]
      show f_Mo_feed_L18 a b c d e (nI i) u = _
      rw [mf_step hu h hi, gi], by show (uI u 1 (t + i) _).1 0 1 = _; rw [uI_n (by omega)]; exact hu⟩)
    (fun u hu => by
      show f_Mo_feed_L18 a b c d e (nI (0 + 20)) u = _
      unfold f_Mo_feed_L18
      rw [if_pos (by decide)])
  obtain ⟨hw1, hw2⟩ := hw
  refine ⟨uI (itN (fun u x => uI u 1 x (g x)) s t 20) 0 1 (nI (t + 20)), ?_, uI_v, fun i hi => ?_, fun i hi => ?_, fun k hk => ?_, fun j hj => ?_, ?_⟩
  · unfold f_Mo_feed
    rw [ht, show (20 : Int32) = nI 20 from rfl, nI_add, if_pos (show nI (t + 20) ≤ 4000 from nI_le (b := 4000) (by omega) (by decide)), show (0 : Int32) = nI 0 from rfl, hw1, Option.bind_some, lt_eq]
    dsimp only
    rw [hw2, nI_add, uI_v]
  · rw [uI_n (by omega), it1_1, if_pos (by omega), gi]
  · rw [uI_n (by omega), it1_1, if_neg (by omega)]
  · rw [uI_n (by omega), it1_n (by omega)]
  · rw [uI_o (by omega), it1_n (by omega)]
  · rw [uI_2, it1_2]
theorem sim_feed : Sim_feed Rel := by
  intro c m h a b d e f
  have h' := h
  obtain ⟨⟨⟨tl, t1, t2, t3, t4⟩, t5, t6, t7, t8⟩, _⟩ := h
  by_cases g : tl + 20 ≤ 4000
  · obtain ⟨c', e1, c1, c2, c3, c4, c5, c6⟩ := sb_feed (a := a) (b := b) (c := d) (d := e) (e := f) t2 g
    obtain ⟨m', e2, m1, m2, m3, m4, m5, m6⟩ := mo_feed (a := a) (b := b) (c := d) (d := e) (e := f) t3 g
    refine ⟨_, c', m', e1, e2, ?_⟩
    refine Rel_blind h' ⟨⟨tl + 20, g, c1, m1, fun i hi => ?_⟩, ?_, ?_, ?_, ?_⟩ (fun k hk => c4 k (by omega)) (c5 5 (by omega)) (c5 8 (by omega)) (fun q hq => by rw [c6]) (fun k hk => m4 k (by omega)) (fun j hj => m5 j (by omega)) (fun _ _ _ => trivial)
    · by_cases hi' : i < tl
      · rw [c3 i hi', m3 i hi']; exact t4 i hi'
      · obtain ⟨k, rfl⟩ : ∃ k, i = tl + k := ⟨i - tl, by omega⟩
        rw [c2 k (by omega), m2 k (by omega)]
        exact ⟨fb_eq (by omega), fbM_byte⟩
    · rw [c4 2 (by omega), m5 20 (by omega)]; exact t5
    · rw [c4 2 (by omega), m5 21 (by omega)]; exact t6
    · rw [c4 2 (by omega), m5 22 (by omega)]; exact t7
    · intro k hk; rw [c6]; exact t8 k hk
  · unfold f_SB_feed f_Mo_feed
    have hn : ¬ (nI tl + 20 : Int32) ≤ 4000 := by
      rw [show (20 : Int32) = nI 20 from rfl, nI_add]; exact nI_ge (a := 4000) (by omega) (by omega)
    rw [t2, t3, if_neg hn, if_neg hn]
    exact ⟨-1, c, m, rfl, rfl, h'⟩
