/-! ===== from the two new objects to the loop ===== -/
def wC1 (a : Nat → Nat) (cy : Nat → ClassId) : va_W := [((a 0), .inr (9, [.ref (a 1), .int 0, .ref (a 2), .ref (a 10), .ref (a 15), .int 0, .ref (a 20), .ref (a 58), .int 200000])), ((a 1), .inl (cy 100, 4000, .inl (fun _ => 0))), ((a 2), .inr (0, [.ref (a 3), .ref (a 4), .ref (a 5), .ref (a 6), .int 0, .ref (a 7), .ref (a 8), .ref (a 9), .int 0, .null, .int 0, .int (-1), .int (-1)])), ((a 3), .inr (8, [.null, .int 0, .int 0, .int 0, .int 0, .long 0, .int 0])), ((a 4), .inl (cy 101, 51, .inr (.inl nmF))), ((a 5), .inl (cy 101, 200, .inr (.inl (fun _ => 0)))), ((a 6), .inl (cy 100, 200, .inl (fun _ => 0))), ((a 7), .inl (cy 101, 200, .inr (.inl (fun _ => 0)))), ((a 8), .inl (cy 100, 200, .inl (fun _ => 0))), ((a 9), .inl (cy 100, 200, .inl (fun _ => 0))), ((a 10), .inr (7, [.ref (a 11), .ref (a 12), .ref (a 13), .int 0, .ref (a 14), .int 0])), ((a 11), .inl (cy 100, 200, .inl (fun _ => 0))), ((a 12), .inl (cy 100, 600, .inl (fun _ => 0))), ((a 13), .inl (cy 102, 200, .inl (fun _ => 0))), ((a 14), .inl (cy 100, 100, .inl (fun _ => 0))), ((a 15), .inr (7, [.ref (a 16), .ref (a 17), .ref (a 18), .int 0, .ref (a 19), .int 0])), ((a 16), .inl (cy 100, 200, .inl (fun _ => 0))), ((a 17), .inl (cy 100, 600, .inl (fun _ => 0))), ((a 18), .inl (cy 102, 200, .inl (fun _ => 0))), ((a 19), .inl (cy 100, 100, .inl (fun _ => 0))), ((a 20), .inr (5, [.null, .ref (a 21), .ref (a 26), .ref (a 34), .ref (a 37), .ref (a 45), .ref (a 54), .ref (a 55), .int 0, .int 0, .int 0, .int 0, .int 0, .int 0, .int 0, .ref (a 56), .int 0, .ref (a 57), .int 0])), ((a 21), .inr (6, [.ref (a 22), .ref (a 23), .ref (a 24), .ref (a 25), .int 0, .int 0])), ((a 22), .inl (cy 100, 4096, .inl (fun _ => 0))), ((a 23), .inl (cy 100, 4096, .inl (fun _ => 0))), ((a 24), .inl (cy 100, 4096, .inl (fun _ => 0))), ((a 25), .inl (cy 102, 4096, .inl (fun _ => 0))), ((a 26), .inr (2, [.ref (a 27), .ref (a 28), .ref (a 29), .ref (a 30), .ref (a 31), .int 0, .ref (a 32), .ref (a 33), .int 0, .int 0, .int 0])), ((a 27), .inl (cy 100, 101, .inl (fun _ => 0))), ((a 28), .inl (cy 100, 101, .inl (fun _ => 0))), ((a 29), .inl (cy 100, 101, .inl (fun _ => 0))), ((a 30), .inl (cy 100, 101, .inl (fun _ => 0))), ((a 31), .inl (cy 100, 101, .inl (fun _ => 0))), ((a 32), .inl (cy 100, 256, .inl (fun _ => 0))), ((a 33), .inl (cy 100, 100, .inl (fun _ => 0))), ((a 34), .inr (3, [.ref (a 35), .ref (a 36), .int 0])), ((a 35), .inl (cy 100, 101, .inl (fun _ => 0))), ((a 36), .inl (cy 100, 100, .inl (fun _ => 0))), ((a 37), .inr (4, [.ref (a 38), .ref (a 39), .ref (a 40), .ref (a 41), .int 0, .int 0, .int 0, .ref (a 42), .ref (a 43), .ref (a 44), .int 0])), ((a 38), .inl (cy 100, 60, .inl (fun _ => 0))), ((a 39), .inl (cy 100, 60, .inl (fun _ => 0))), ((a 40), .inl (cy 100, 60, .inl (fun _ => 0))), ((a 41), .inl (cy 100, 60, .inl (fun _ => 0))), ((a 42), .inl (cy 100, 20, .inl (fun _ => 0))), ((a 43), .inl (cy 100, 20, .inl (fun _ => 0))), ((a 44), .inl (cy 100, 20, .inl (fun _ => 0))), ((a 45), .inl (cy 104, 8, .inr (.inr (.inr (.inr (va_up (va_up (va_up (va_up (va_up (va_up (va_up (va_up (fun _ => none) (0 : Int32).toNatClampNeg (some (a 46))) (1 : Int32).toNatClampNeg (some (a 47))) (2 : Int32).toNatClampNeg (some (a 48))) (3 : Int32).toNatClampNeg (some (a 49))) (4 : Int32).toNatClampNeg (some (a 50))) (5 : Int32).toNatClampNeg (some (a 51))) (6 : Int32).toNatClampNeg (some (a 52))) (7 : Int32).toNatClampNeg (some (a 53)))))))), ((a 46), .inr (1, [.int 0, .int 0, .int 0])), ((a 47), .inr (1, [.int 0, .int 0, .int 0])), ((a 48), .inr (1, [.int 0, .int 0, .int 0])), ((a 49), .inr (1, [.int 0, .int 0, .int 0])), ((a 50), .inr (1, [.int 0, .int 0, .int 0])), ((a 51), .inr (1, [.int 0, .int 0, .int 0])), ((a 52), .inr (1, [.int 0, .int 0, .int 0])), ((a 53), .inr (1, [.int 0, .int 0, .int 0])), ((a 54), .inr (1, [.int 0, .int 0, .int 0])), ((a 55), .inr (1, [.int 0, .int 0, .int 0])), ((a 56), .inl (cy 100, 32, .inl (fun _ => 0))), ((a 57), .inl (cy 100, 100, .inl (fun _ => 0))), ((a 58), .inr (5, [.null, .ref (a 59), .ref (a 64), .ref (a 72), .ref (a 75), .ref (a 83), .ref (a 92), .ref (a 93), .int 0, .int 0, .int 0, .int 0, .int 0, .int 0, .int 0, .ref (a 94), .int 0, .ref (a 95), .int 0])), ((a 59), .inr (6, [.ref (a 60), .ref (a 61), .ref (a 62), .ref (a 63), .int 0, .int 0])), ((a 60), .inl (cy 100, 4096, .inl (fun _ => 0))), ((a 61), .inl (cy 100, 4096, .inl (fun _ => 0))), ((a 62), .inl (cy 100, 4096, .inl (fun _ => 0))), ((a 63), .inl (cy 102, 4096, .inl (fun _ => 0))), ((a 64), .inr (2, [.ref (a 65), .ref (a 66), .ref (a 67), .ref (a 68), .ref (a 69), .int 0, .ref (a 70), .ref (a 71), .int 0, .int 0, .int 0])), ((a 65), .inl (cy 100, 101, .inl (fun _ => 0))), ((a 66), .inl (cy 100, 101, .inl (fun _ => 0))), ((a 67), .inl (cy 100, 101, .inl (fun _ => 0))), ((a 68), .inl (cy 100, 101, .inl (fun _ => 0))), ((a 69), .inl (cy 100, 101, .inl (fun _ => 0))), ((a 70), .inl (cy 100, 256, .inl (fun _ => 0))), ((a 71), .inl (cy 100, 100, .inl (fun _ => 0))), ((a 72), .inr (3, [.ref (a 73), .ref (a 74), .int 0])), ((a 73), .inl (cy 100, 101, .inl (fun _ => 0))), ((a 74), .inl (cy 100, 100, .inl (fun _ => 0))), ((a 75), .inr (4, [.ref (a 76), .ref (a 77), .ref (a 78), .ref (a 79), .int 0, .int 0, .int 0, .ref (a 80), .ref (a 81), .ref (a 82), .int 0])), ((a 76), .inl (cy 100, 60, .inl (fun _ => 0))), ((a 77), .inl (cy 100, 60, .inl (fun _ => 0))), ((a 78), .inl (cy 100, 60, .inl (fun _ => 0))), ((a 79), .inl (cy 100, 60, .inl (fun _ => 0))), ((a 80), .inl (cy 100, 20, .inl (fun _ => 0))), ((a 81), .inl (cy 100, 20, .inl (fun _ => 0))), ((a 82), .inl (cy 100, 20, .inl (fun _ => 0))), ((a 83), .inl (cy 104, 8, .inr (.inr (.inr (.inr (va_up (va_up (va_up (va_up (va_up (va_up (va_up (va_up (fun _ => none) (0 : Int32).toNatClampNeg (some (a 84))) (1 : Int32).toNatClampNeg (some (a 85))) (2 : Int32).toNatClampNeg (some (a 86))) (3 : Int32).toNatClampNeg (some (a 87))) (4 : Int32).toNatClampNeg (some (a 88))) (5 : Int32).toNatClampNeg (some (a 89))) (6 : Int32).toNatClampNeg (some (a 90))) (7 : Int32).toNatClampNeg (some (a 91)))))))), ((a 84), .inr (1, [.int 0, .int 0, .int 0])), ((a 85), .inr (1, [.int 0, .int 0, .int 0])), ((a 86), .inr (1, [.int 0, .int 0, .int 0])), ((a 87), .inr (1, [.int 0, .int 0, .int 0])), ((a 88), .inr (1, [.int 0, .int 0, .int 0])), ((a 89), .inr (1, [.int 0, .int 0, .int 0])), ((a 90), .inr (1, [.int 0, .int 0, .int 0])), ((a 91), .inr (1, [.int 0, .int 0, .int 0])), ((a 92), .inr (1, [.int 0, .int 0, .int 0])), ((a 93), .inr (1, [.int 0, .int 0, .int 0])), ((a 94), .inl (cy 100, 32, .inl (fun _ => 0))), ((a 95), .inl (cy 100, 100, .inl (fun _ => 0)))]
def wM1 (a : Nat → Nat) (cy : Nat → ClassId) : va_W := [(a 0, .inr (10, [.ref (a 1), .int 0, .ref (a 2), .int 0, .ref (a 3), .ref (a 4), .ref (a 5), .ref (a 6), .ref (a 7), .ref (a 8), .ref (a 9), .ref (a 10), .ref (a 11), .ref (a 12), .int 0, .int 0, .int 0, .int 0, .int 0, .int 0, .int 0, .int (-1), .int (-1), .int 0, .int 0, .int 0, .int 0, .int 0, .int 0, .int 0, .ref (a 13), .ref (a 14), .ref (a 15), .ref (a 16), .ref (a 17), .ref (a 18), .ref (a 19), .ref (a 20), .ref (a 21), .ref (a 22), .ref (a 23), .ref (a 24), .ref (a 25), .ref (a 26), .ref (a 27), .ref (a 28), .ref (a 29), .ref (a 30), .ref (a 31), .ref (a 32), .ref (a 33), .ref (a 34), .ref (a 35), .ref (a 36), .ref (a 37), .int 0, .int 0, .ref (a 38), .ref (a 39), .ref (a 40), .ref (a 41), .int 0, .int 0, .int 0, .int 0, .ref (a 42), .ref (a 43), .ref (a 44), .int 0, .int 0, .ref (a 45), .ref (a 46), .ref (a 47), .int 0, .ref (a 48)])), (a 1, .inl (cy 103, 4000, .inl (fun _ => 0))), (a 2, .inl (cy 103, 3000, .inl (fun _ => 0))), (a 3, .inl (cy 100, 400, .inl (fun _ => 0))), (a 4, .inl (cy 102, 1200, .inl (fun _ => 0))), (a 5, .inl (cy 100, 1200, .inl (fun _ => 0))), (a 6, .inl (cy 100, 201, .inl (fun _ => 0))), (a 7, .inl (cy 100, 201, .inl (fun _ => 0))), (a 8, .inl (cy 100, 201, .inl (fun _ => 0))), (a 9, .inl (cy 100, 201, .inl (fun _ => 0))), (a 10, .inl (cy 100, 201, .inl (fun _ => 0))), (a 11, .inl (cy 100, 201, .inl (fun _ => 0))), (a 12, .inl (cy 100, 201, .inl (fun _ => 0))), (a 13, .inl (cy 100, 16, .inl (fun _ => 0))), (a 14, .inl (cy 100, 16, .inl (fun _ => 0))), (a 15, .inl (cy 100, 16, .inl (fun _ => 0))), (a 16, .inl (cy 100, 8192, .inl (fun _ => 0))), (a 17, .inl (cy 100, 8192, .inl (fun _ => 0))), (a 18, .inl (cy 100, 8192, .inl (fun _ => 0))), (a 19, .inl (cy 102, 8192, .inl (fun _ => 0))), (a 20, .inl (cy 100, 2, .inl (fun _ => 0))), (a 21, .inl (cy 100, 2, .inl (fun _ => 0))), (a 22, .inl (cy 100, 2, .inl (fun _ => 0))), (a 23, .inl (cy 100, 2, .inl (fun _ => 0))), (a 24, .inl (cy 100, 2, .inl (fun _ => 0))), (a 25, .inl (cy 100, 64, .inl (fun _ => 0))), (a 26, .inl (cy 100, 2, .inl (fun _ => 0))), (a 27, .inl (cy 100, 2, .inl (fun _ => 0))), (a 28, .inl (cy 100, 202, .inl (fun _ => 0))), (a 29, .inl (cy 100, 202, .inl (fun _ => 0))), (a 30, .inl (cy 100, 202, .inl (fun _ => 0))), (a 31, .inl (cy 100, 202, .inl (fun _ => 0))), (a 32, .inl (cy 100, 202, .inl (fun _ => 0))), (a 33, .inl (cy 100, 202, .inl (fun _ => 0))), (a 34, .inl (cy 100, 2, .inl (fun _ => 0))), (a 35, .inl (cy 100, 2, .inl (fun _ => 0))), (a 36, .inl (cy 100, 100, .inl (fun _ => 0))), (a 37, .inl (cy 100, 100, .inl (fun _ => 0))), (a 38, .inl (cy 100, 60, .inl (fun _ => 0))), (a 39, .inl (cy 100, 60, .inl (fun _ => 0))), (a 40, .inl (cy 100, 60, .inl (fun _ => 0))), (a 41, .inl (cy 100, 60, .inl (fun _ => 0))), (a 42, .inl (cy 100, 20, .inl (fun _ => 0))), (a 43, .inl (cy 100, 20, .inl (fun _ => 0))), (a 44, .inl (cy 100, 20, .inl (fun _ => 0))), (a 45, .inl (cy 100, 256, .inl (fun _ => 0))), (a 46, .inl (cy 100, 256, .inl (fun _ => 0))), (a 47, .inl (cy 100, 256, .inl (fun _ => 0))), (a 48, .inl (cy 100, 101, .inl (fun _ => 0)))]
theorem wd_m1 (a : Nat → Nat) (cy : Nat → ClassId) : wd SM a cy m00 = wM1 a cy := wd_m00 a cy
set_option maxRecDepth 100000 in
theorem wd_c1 (a : Nat → Nat) (cy : Nat → ClassId) : wd SC a cy c00 = ((wC1 a cy).set 45 (a 45, .inl (cy 104, 8, .inr (.inr (.inr (.inr (fun j => (rv SC c00 45 j).map a))))))).set 83 (a 83, .inl (cy 104, 8, .inr (.inr (.inr (.inr (fun j => (rv SC c00 83 j).map a)))))) := by
  rw [wd_c00]
  unfold wC1
  simp only [List.set_cons_succ, List.set_cons_zero]
theorem D_fst {A : Nat → Prop} {ws ws' : va_W} (h : va_D A ws) (e : ws'.map Prod.fst = ws.map Prod.fst) : va_D A ws' := by
  have g : ∀ (k : Nat) (q : Nat × va_E), ws'[k]? = some q → ∃ q' : Nat × va_E, ws[k]? = some q' ∧ q'.1 = q.1 := by
    intro k q hk
    have h1 : (ws'.map Prod.fst)[k]? = some q.1 := by rw [List.getElem?_map, hk]; rfl
    rw [e, List.getElem?_map] at h1
    cases hw : ws[k]? with
    | none => rw [hw] at h1; cases h1
    | some q' => rw [hw] at h1; exact ⟨q', rfl, Option.some.inj h1⟩
  refine ⟨fun i j p q hi hj he => ?_, fun k q hk => ?_⟩
  · obtain ⟨p', p1, p2⟩ := g i p hi
    obtain ⟨q', q1, q2⟩ := g j q hj
    exact h.1 i j p' q' p1 q1 (by rw [p2, q2]; exact he)
  · obtain ⟨q', q1, q2⟩ := g k q hk
    rw [← q2]; exact h.2 k q' q1
theorem wd_fst {S : Sh} {a : Nat → Nat} {cy : Nat → ClassId} {s s' : St} : (wd S a cy s).map Prod.fst = (wd S a cy s').map Prod.fst := by
  unfold wd
  rw [List.map_map, List.map_map]
  exact List.map_congr_left (fun _ _ => rfl)
theorem set_fst {ws : va_W} {p a : Nat} {e e' : va_E} (h : ws[p]? = some (a, e)) : (ws.set p (a, e')).map Prod.fst = ws.map Prod.fst := by
  apply List.ext_getElem?
  intro i
  rw [List.getElem?_map, List.getElem?_map]
  by_cases hi : i = p
  · subst hi
    rw [List.getElem?_set_self (List.getElem?_eq_some_iff.mp h).1, h]; rfl
  · rw [List.getElem?_set_ne (Ne.symm hi)]
set_option maxHeartbeats 8000000 in
set_option maxRecDepth 100000 in
theorem start_loop {Rel : St → St → Prop} (hSim : Sim Rel) (hRel : Rel c00 m00) {G : GG} {a a1 a2 : Nat → Nat} {b L : Nat} {xs : Nat → Int32} (hL : L ≤ 3072) (C : CW (XC a) G code RL) (hx : ∀ k, 96 ≤ k → a1 k = a k) (hR : gR G = room_1) (h4 : gL G = 4) (hXs : va_X b L xs (gs G) (gs G).heap ∧ b < (gs G).heap.size ∧ ¬ gA G b) (hret : (gh G).sig.returnType = ret) (hlocks : (gh G).locks = false) (hga : ga G = #[Value.ref b]) (hQ : gQ G = lw_Z (gb G) #[Value.ref b] (gs G)) (hnA : ∀ q, gA G q → (gs G).heap.size ≤ q) :
    KW G 18 [(3, .int 0), (2, .ref (a2 0)), (1, .ref (a1 0)), (0, .ref b)] [] (wC1 a1 (gy G) ++ wM1 a2 (gy G)) 145 89985 := by
  intro H locs ls hP hD hS hl
  obtain ⟨c1, c2, c3, c4, c5, c6, c7, c8, c9, c10⟩ := C
  have w45 : (wC1 a1 (gy G))[45]? = some (a1 45, .inl ((gy G) 104, 8, .inr (.inr (.inr (.inr (va_up (va_up (va_up (va_up (va_up (va_up (va_up (va_up (fun _ => none) (0 : Int32).toNatClampNeg (some (a1 46))) (1 : Int32).toNatClampNeg (some (a1 47))) (2 : Int32).toNatClampNeg (some (a1 48))) (3 : Int32).toNatClampNeg (some (a1 49))) (4 : Int32).toNatClampNeg (some (a1 50))) (5 : Int32).toNatClampNeg (some (a1 51))) (6 : Int32).toNatClampNeg (some (a1 52))) (7 : Int32).toNatClampNeg (some (a1 53)))))))) := rfl
  have w83 : ((wC1 a1 (gy G)).set 45 (a1 45, .inl ((gy G) 104, 8, .inr (.inr (.inr (.inr (fun j => (rv SC c00 45 j).map a1)))))))[83]? = some (a1 83, .inl ((gy G) 104, 8, .inr (.inr (.inr (.inr (va_up (va_up (va_up (va_up (va_up (va_up (va_up (va_up (fun _ => none) (0 : Int32).toNatClampNeg (some (a1 84))) (1 : Int32).toNatClampNeg (some (a1 85))) (2 : Int32).toNatClampNeg (some (a1 86))) (3 : Int32).toNatClampNeg (some (a1 87))) (4 : Int32).toNatClampNeg (some (a1 88))) (5 : Int32).toNatClampNeg (some (a1 89))) (6 : Int32).toNatClampNeg (some (a1 90))) (7 : Int32).toNatClampNeg (some (a1 91)))))))) := rfl
  have hP1 := va_Pset (p := 45) (g := fun j => (rv SC c00 45 j).map a1) (w_left hP) w45 (fun j hj => by
    rcases (show j = 0 ∨ j = 1 ∨ j = 2 ∨ j = 3 ∨ j = 4 ∨ j = 5 ∨ j = 6 ∨ j = 7 by omega) with rfl | rfl | rfl | rfl | rfl | rfl | rfl | rfl <;> rfl)
  have hP2 := va_Pset (p := 83) (g := fun j => (rv SC c00 83 j).map a1) hP1 w83 (fun j hj => by
    rcases (show j = 0 ∨ j = 1 ∨ j = 2 ∨ j = 3 ∨ j = 4 ∨ j = 5 ∨ j = 6 ∨ j = 7 by omega) with rfl | rfl | rfl | rfl | rfl | rfl | rfl | rfl <;> rfl)
  rw [← wd_c1] at hP2
  have hPm := w_right hP
  rw [← wd_m1] at hPm
  have hfst : ∀ c m, (wd SC a1 (gy G) c ++ wd SM a2 (gy G) m).map Prod.fst = (wC1 a1 (gy G) ++ wM1 a2 (gy G)).map Prod.fst := by
    intro c m
    rw [List.map_append, List.map_append, wd_fst (s' := c00), wd_fst (S := SM) (s' := m00), wd_m1, wd_c1, set_fst w83, set_fst w45]
  obtain ⟨G', hG'⟩ : ∃ G' : GG, G' = (G.1, (gD G, gA G, a1, gy G), gL G, gQ G, 145, 89985) := ⟨_, rfl⟩
  have hsX : strX a1 (gA G) (gs G) := by
    have h := c10.1
    unfold strX at h ⊢
    have e2 : (fun i => a1 (200 + i)) = fun i => a (200 + i) := funext fun i => hx _ (by omega)
    have e3 : (fun i => a1 (300 + i)) = fun i => a (300 + i) := funext fun i => hx _ (by omega)
    rw [e2, e3]
    refine ⟨h.1, fun i hi => ?_, h.2.2⟩
    rw [hx _ (by omega)]; exact h.2.1 i hi
  have CL' : CL G' a2 b L xs := by
    subst hG'
    refine ⟨c1, c2, c3, c4, c5, c6, fun c m => D_fst hD (hfst c m), ⟨c7, ?_, ?_⟩, hsX, hXs⟩
    · show 145 ≤ (gR G).cells; rw [hR]; decide
    · show 89985 ≤ (gR G).slots; rw [hR]; decide
  have hg' : gR G' = room_1 := by rw [hG']; exact hR
  have hl4 : gL G' = 4 := by rw [hG']; exact h4
  have hend : ∀ lv c m, KL G' a2 559 lv [] c m := by
    intro lv c m
    refine kl_iconst CL' (v := 1) (by decide) dL_law_559 ?_
    subst hG'
    intro H locs ls _ hS _
    show W (gp G) (gl G) (ge G) (gR G) (gs G) (gm G) (ga G) (gb G) (gh G) (gc G) H locs 145 89985 (gQ G) (F0 (gm G) 560 ls [.int 1])
    refine va_forget (fun q hq => hnA _ (hS.2.2 q hq)) ?_
    refine W.widen (k := 600000) (n := 7302250) (by decide) (by decide) ?_
    rw [hR, hga, hQ]
    exact lw_ret c1 c2 hret hlocks dL_law_560
  have hloop := law_loop CL' hl4 hg' hSim hL hend (L + 6) 0 c00 m00 (by omega) (by omega) hRel
  subst hG'
  have hl' : lv_has ls (gL G) [(0, .ref b), (1, .ref (a1 0)), (2, .ref (a2 0)), (3, .int (nI 0))] := lv_sub hl [3, 2, 1, 0] rfl
  exact hloop H locs ls (hP2.app hPm) hS hl'
