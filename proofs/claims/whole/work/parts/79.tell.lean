/-! ===== class and model side by side, XVIII: what is told ===== -/
theorem CR_grow {a m a' m' : Mm} (h : CR a m 0) (hI : IM m) (ra : ∀ (k : Nat) (i j : Int), 20 ≤ k → rd a' k i j = rd a k i j) (rm : ∀ (k : Nat) (i j : Int), 72 ≤ k ∨ (k = 40 ∧ (j = 45 ∨ j = 50 ∨ j = 51 ∨ j = 58)) → rd m' k i j = rd m k i j) (c25 : rd m 40 0 25 ≤ rd m' 40 0 25) (c30 : rd m 40 0 30 ≤ rd m' 40 0 30) (l57 : ∀ t, (0 ≤ t ∧ t < rd m 40 0 25) ∨ (24 ≤ t ∧ t < 24 + rd m 40 0 30) → rd m' 57 0 t = rd m 57 0 t) : CR a' m' 0 := by
  have hA : rd m 40 0 30 ≤ 10 := hI.2.2.1.2
  obtain ⟨h1, h2, h4, h5, z1, z2, z3⟩ := h
  refine ⟨bkR_of h1 (fun k j k0 k1 => ra k _ j (by omega)) (fun k j k0 k1 => rm k 0 j (by omega)), fun s g0 g1 => ?_, fun t t0 t1 => ?_, dsR_of h5 (fun s => rm 80 0 s (by omega)), ?_, fun c => absurd c (by decide), fun _ => ?_⟩
  · have hv := h2 s g0 g1
    unfold vR at hv ⊢
    rw [ra 31 _ 0 (by decide), ra 31 _ 1 (by decide), ra 31 _ 2 (by decide), ra 31 _ 3 (by decide), rm 80 0 _ (by omega), rm 81 0 _ (by omega), rm 82 0 _ (by omega), rm 75 0 _ (by omega)]
    rcases hv with hv | ⟨g1, g2, g3, g4, g5, g6⟩ | ⟨g1, g2, g3, g4, g5, g6, g7⟩
    · exact Or.inl hv
    · rw [l57 _ (Or.inl g1)]; exact Or.inr (Or.inl ⟨⟨g1.1, by omega⟩, g2, g3, g4, g5, g6⟩)
    · rw [l57 _ (Or.inr g1)]; exact Or.inr (Or.inr ⟨⟨g1.1, by omega⟩, g2, g3, g4, g5, g6, g7⟩)
  · have hv := h4 t t0 t1
    unfold wR at hv ⊢
    rw [ra 31 _ 0 (by decide), ra 31 _ 1 (by decide), ra 31 _ 2 (by decide), ra 31 _ 3 (by decide), ra 31 _ 4 (by decide), rm 83 0 _ (by omega), rm 84 0 _ (by omega), rm 85 0 _ (by omega)]
    rcases hv with hv | ⟨w1, w2, w3, w4⟩
    · exact Or.inl hv
    · rw [l57 _ (Or.inl ⟨t0, w1⟩)]; exact Or.inr ⟨by omega, w2, w3, w4⟩
  · rw [rm 40 0 50 (by omega)]; exact z1
  · obtain ⟨f1, f2, f3, f4, f5⟩ := z3 rfl
    refine ⟨fun g g0 g1 => ?_, fun s g0 g1 => ?_, ?_, ?_, fun d q0 q1 => ?_⟩
    · rw [ra 32 _ _ (by decide), rm 77 0 _ (by omega)]; exact f1 g g0 g1
    · rw [ra 33 _ _ (by decide), ra 34 _ _ (by decide), rm 78 0 _ (by omega), rm 79 0 _ (by omega)]; exact f2 s g0 g1
    · rw [ra 27 _ _ (by decide), rm 40 0 58 (by omega)]; exact f3
    · rw [rm 40 0 58 (by omega)]; exact f4
    · rw [rm 40 0 58 (by omega)] at q1
      obtain ⟨d1, d2, d3, d4, d5, d6, d7, d8, d9, d10, d11⟩ := f5 d q0 q1
      unfold daR
      rw [ra 28 _ _ (by decide), ra 28 _ _ (by decide), ra 28 _ _ (by decide), ra 28 _ _ (by decide), ra 28 _ _ (by decide), ra 28 _ _ (by decide), ra 28 _ _ (by decide), rm 93 0 _ (by omega), rm 94 0 _ (by omega), rm 95 0 _ (by omega), rm 96 0 _ (by omega), rm 97 0 _ (by omega), rm 98 0 _ (by omega)]
      exact ⟨d1, d2, d3, d4, d5, d6, d7, d8, d9, fun c => by have := d10 c; omega, d11⟩
theorem FU_tell {a m a' m' : Mm} (h : FU a m) (hP : PR a' m') (hIA : IA a') (ra : ∀ (k : Nat) (i j : Int), 20 ≤ k → rd a' k i j = rd a k i j) (rm : ∀ (k : Nat) (i j : Int), 72 ≤ k ∨ (k = 40 ∧ (j = 45 ∨ j = 50 ∨ j = 51 ∨ j = 58)) → rd m' k i j = rd m k i j) (c25 : rd m 40 0 25 ≤ rd m' 40 0 25) (c30 : rd m 40 0 30 ≤ rd m' 40 0 30) (l57 : ∀ t, (0 ≤ t ∧ t < rd m 40 0 25) ∨ (24 ≤ t ∧ t < 24 + rd m 40 0 30) → rd m' 57 0 t = rd m 57 0 t) : FU a' m' := by
  obtain ⟨hP0, hC, hS, hL, hid, h8, hW, hI, h27⟩ := h
  have e45 : rd m' 40 0 45 = rd m 40 0 45 := rm 40 0 45 (by omega)
  refine ⟨hP, CR_grow hC hP0.2.2 ra rm c25 c30 l57, fun n n0 n1 => ?_, ?_, ?_, ?_, ?_, hIA, ?_⟩
  · rw [e45] at n1
    obtain ⟨g1, g2, g3⟩ := hS n n0 n1
    refine ⟨fun t t0 t1 => ?_, fun i i0 i1 => ?_, fun g g0 g1 => ?_⟩
    · rw [ra 21 _ _ (by decide), ra 22 _ _ (by decide), ra 23 _ _ (by decide), rm 88 0 _ (by omega), rm 89 0 _ (by omega), rm 74 0 _ (by omega)]; exact g1 t t0 t1
    · rw [ra 24 _ _ (by decide), rm 75 0 _ (by omega)]; exact g2 i i0 i1
    · rw [ra 25 _ _ (by decide), rm 87 0 _ (by omega)]; exact g3 g g0 g1
  · rw [e45]
    refine ⟨fun t j t0 t1 j0 j1 hj => ?_, fun i i0 i1 => ?_⟩
    · rw [rm 74 0 _ (by omega)] at hj; exact hL.1 t j t0 t1 j0 j1 hj
    · rw [rm 75 0 _ (by omega)]; exact hL.2 i i0 i1
  · refine ⟨fun s s0 s1 => ?_, fun t t0 t1 => ?_⟩
    · rw [ra 31 _ _ (by decide), ra 31 _ _ (by decide), ra 31 _ _ (by decide)]; exact hid.1 s s0 s1
    · rw [ra 31 _ _ (by decide)]; exact hid.2 t t0 t1
  · rw [e45, ra 26 _ _ (by decide)]; exact h8
  · rw [e45]; exact hW
  · rw [ra 27 _ _ (by decide)]; exact h27
theorem FU_hold {a m : Mm} (h : FU a m) (z : Int) : FU a (hold m z) := by
  have rh : ∀ (k : Nat) (i j : Int), ¬ (k = 40 ∧ j = 60) → rd (hold m z) k i j = rd m k i j := fun k i j hk => rd_hold _ _ _ _ _ (by omega)
  refine FU_tell h (PR_of h.1 (fun k i j _ => rfl) (fun k i j hk => rh k i j (by omega))) h.2.2.2.2.2.2.2.1 (fun k i j _ => rfl) (fun k i j hk => rh k i j (by omega)) ?_ ?_ (fun t _ => rh 57 0 t (by omega))
  · rw [rh 40 0 25 (by omega)]; exact Int.le_refl _
  · rw [rh 40 0 30 (by omega)]; exact Int.le_refl _
/-- one told thing of the sky -/
theorem FU_sky {a m a' m' : Mm} (h : FU a m) (hS : SK a' m') (ra : ∀ (k : Nat) (i j : Int), ¬ (k = 5 ∧ j = 5) → ¬ (11 ≤ k ∧ k ≤ 16) → rd a' k i j = rd a k i j) (rm : ∀ (k : Nat) (i j : Int), ¬ (k = 40 ∧ j = 2) → ¬ (41 ≤ k ∧ k ≤ 47) → rd m' k i j = rd m k i j) : FU a' m' := by
  refine FU_tell h ⟨hS, TG_of h.1.2.1 (fun k i j hk => ra k i j (by omega) (by omega)) (fun k j hk => rm k 0 j (by omega) (by omega)), IM_of h.1.2.2 (fun k i j hk => rm k i j (by omega) (by omega))⟩ ?_ (fun k i j hk => ra k i j (by omega) (by omega)) (fun k i j hk => rm k i j (by omega) (by omega)) ?_ ?_ (fun t _ => rm 57 0 t (by omega) (by omega))
  · have hI := h.2.2.2.2.2.2.2.1
    unfold IA tOK aOK at hI ⊢
    simp only [show ∀ i j, rd a' 17 i j = rd a 17 i j from fun i j => ra 17 i j (by omega) (by omega), show ∀ i j, rd a' 18 i j = rd a 18 i j from fun i j => ra 18 i j (by omega) (by omega), show ∀ i j, rd a' 19 i j = rd a 19 i j from fun i j => ra 19 i j (by omega) (by omega), ra 5 0 6 (by omega) (by omega), ra 5 0 7 (by omega) (by omega), ra 5 0 8 (by omega) (by omega)]
    exact hI
  · rw [rm 40 0 25 (by omega) (by omega)]; exact Int.le_refl _
  · rw [rm 40 0 30 (by omega) (by omega)]; exact Int.le_refl _
theorem tell_place {a m : Mm} (h : FU a m) {s b c : Int} (s0 : 0 ≤ s) (s1 : s < 3) : FU (st (st a 11 s 0 (wr b)) 11 s 1 (wr c)) (st (st m 41 0 s (wr b)) 42 0 s (wr c)) := by
  refine FU_sky h ?_ (fun k i j _ hk => by rw [rd_st_ne (by omega), rd_st_ne (by omega)]) (fun k i j _ hk => by rw [rd_st_ne (by omega), rd_st_ne (by omega)])
  have ra : ∀ (k : Nat) (i j : Int), k ≠ 11 → rd (st (st a 11 s 0 (wr b)) 11 s 1 (wr c)) k i j = rd a k i j := fun k i j hk => by rw [rd_st_ne hk, rd_st_ne hk]
  have rm : ∀ (k : Nat) (i j : Int), k ≠ 41 → k ≠ 42 → rd (st (st m 41 0 s (wr b)) 42 0 s (wr c)) k i j = rd m k i j := fun k i j hk hk2 => by rw [rd_st_ne hk2, rd_st_ne hk]
  obtain ⟨g1, g2, g3, g4, g5⟩ := h.1.1
  refine ⟨fun s' q0 q1 => ?_, ?_, fun s' z q0 q1 z0 z1 => ?_, fun s' n q0 q1 n0 n1 => ?_, fun s' i n q0 q1 i0 i1 n0 n1 => ?_⟩
  · obtain ⟨f1, f2⟩ := g1 s' q0 q1
    refine ⟨?_, ?_⟩
    · rw [rd_st, if_neg (by omega), rd_st, rd_st_ne (show 41 ≠ 42 by decide), rd_st]
      by_cases e : s' = s
      · rw [if_pos ⟨rfl, e, rfl⟩, if_pos ⟨rfl, rfl, e⟩]
      · rw [if_neg (by omega), if_neg (by omega)]; exact f1
    · rw [rd_st, rd_st]
      by_cases e : s' = s
      · rw [if_pos ⟨rfl, e, rfl⟩, rd_st, if_pos ⟨rfl, rfl, e⟩]
      · rw [if_neg (by omega), if_neg (by omega), rd_st, if_neg (by omega), rd_st_ne (show 42 ≠ 41 by decide)]; exact f2
  · rw [ra 5 _ _ (by decide), rm 40 _ _ (by decide) (by decide)]; exact g2
  · rw [ra 12 _ _ (by decide), ra 13 _ _ (by decide), rm 44 _ _ (by decide) (by decide), rm 45 _ _ (by decide) (by decide)]; exact g3 s' z q0 q1 z0 z1
  · rw [ra 14 _ _ (by decide), ra 15 _ _ (by decide), rm 46 _ _ (by decide) (by decide), mtC_of (fun j => rm 46 0 j (by decide) (by decide))]; exact g4 s' n q0 q1 n0 n1
  · rw [ra 16 _ _ (by decide), rm 47 _ _ (by decide) (by decide)]; exact g5 s' i n q0 q1 i0 i1 n0 n1
theorem tell_moon {a m : Mm} (h : FU a m) {b : Int} : FU (st a 5 0 5 (wr b)) (st m 40 0 2 (wr b)) := by
  refine FU_sky h ?_ (fun k i j hk _ => by rw [rd_st, if_neg (by omega)]) (fun k i j hk _ => by rw [rd_st, if_neg (by omega)])
  have ra : ∀ (k : Nat) (i j : Int), k ≠ 5 → rd (st a 5 0 5 (wr b)) k i j = rd a k i j := fun k i j hk => rd_st_ne hk
  have rm : ∀ (k : Nat) (i j : Int), k ≠ 40 → rd (st m 40 0 2 (wr b)) k i j = rd m k i j := fun k i j hk => rd_st_ne hk
  obtain ⟨g1, g2, g3, g4, g5⟩ := h.1.1
  refine ⟨fun s' q0 q1 => ?_, ?_, fun s' z q0 q1 z0 z1 => ?_, fun s' n q0 q1 n0 n1 => ?_, fun s' i n q0 q1 i0 i1 n0 n1 => ?_⟩
  · rw [ra 11 _ _ (by decide), ra 11 _ _ (by decide), rm 41 _ _ (by decide), rm 42 _ _ (by decide)]; exact g1 s' q0 q1
  · rw [rd_st, if_pos ⟨rfl, rfl, rfl⟩, rd_st, if_pos ⟨rfl, rfl, rfl⟩]
  · rw [ra 12 _ _ (by decide), ra 13 _ _ (by decide), rm 44 _ _ (by decide), rm 45 _ _ (by decide)]; exact g3 s' z q0 q1 z0 z1
  · rw [ra 14 _ _ (by decide), ra 15 _ _ (by decide), rm 46 _ _ (by decide), mtC_of (fun j => rm 46 0 j (by decide))]; exact g4 s' n q0 q1 n0 n1
  · rw [ra 16 _ _ (by decide), rm 47 _ _ (by decide)]; exact g5 s' i n q0 q1 i0 i1 n0 n1
theorem tell_w1 {a m : Mm} (h : FU a m) {s z e : Int} (s0 : 0 ≤ s) (s1 : s < 3) (z0 : 0 ≤ z) (z1 : z < 720) (e0 : 0 ≤ e) (e1 : e < 100) : FU (st a 12 s z (wr e)) (st m 44 0 (720 * s + z) (wr e)) := by
  refine FU_sky h ?_ (fun k i j _ hk => by rw [rd_st_ne (by omega)]) (fun k i j _ hk => by rw [rd_st_ne (by omega)])
  have ra : ∀ (k : Nat) (i j : Int), k ≠ 12 → rd (st a 12 s z (wr e)) k i j = rd a k i j := fun k i j hk => rd_st_ne hk
  have rm : ∀ (k : Nat) (i j : Int), k ≠ 44 → rd (st m 44 0 (720 * s + z) (wr e)) k i j = rd m k i j := fun k i j hk => rd_st_ne hk
  obtain ⟨g1, g2, g3, g4, g5⟩ := h.1.1
  refine ⟨fun s' q0 q1 => ?_, ?_, fun s' y q0 q1 y0 y1 => ?_, fun s' n q0 q1 n0 n1 => ?_, fun s' i n q0 q1 i0 i1 n0 n1 => ?_⟩
  · rw [ra 11 _ _ (by decide), ra 11 _ _ (by decide), rm 41 _ _ (by decide), rm 42 _ _ (by decide)]; exact g1 s' q0 q1
  · rw [ra 5 _ _ (by decide), rm 40 _ _ (by decide)]; exact g2
  · rw [ra 13 _ _ (by decide), rm 45 _ _ (by decide), rd_st, rd_st, wr_wr, wr_of (by omega) (by omega)]
    obtain ⟨f1, f2, f3, f4⟩ := g3 s' y q0 q1 y0 y1
    by_cases c : s' = s ∧ y = z
    · rw [if_pos ⟨rfl, c⟩, if_pos ⟨rfl, rfl, by omega⟩]; exact ⟨rfl, f2, f3, e0⟩
    · rw [if_neg (fun q => c q.2), if_neg (by omega)]; exact ⟨f1, f2, f3, f4⟩
  · rw [ra 14 _ _ (by decide), ra 15 _ _ (by decide), rm 46 _ _ (by decide), mtC_of (fun j => rm 46 0 j (by decide))]; exact g4 s' n q0 q1 n0 n1
  · rw [ra 16 _ _ (by decide), rm 47 _ _ (by decide)]; exact g5 s' i n q0 q1 i0 i1 n0 n1
theorem tell_f1 {a m : Mm} (h : FU a m) {s z : Int} (s0 : 0 ≤ s) (s1 : s < 3) (z0 : 0 ≤ z) (z1 : z < 720) : FU (st a 13 s z (wr 1 % 2)) (st m 45 0 (720 * s + z) (wr 1)) := by
  refine FU_sky h ?_ (fun k i j _ hk => by rw [rd_st_ne (by omega)]) (fun k i j _ hk => by rw [rd_st_ne (by omega)])
  have ra : ∀ (k : Nat) (i j : Int), k ≠ 13 → rd (st a 13 s z (wr 1 % 2)) k i j = rd a k i j := fun k i j hk => rd_st_ne hk
  have rm : ∀ (k : Nat) (i j : Int), k ≠ 45 → rd (st m 45 0 (720 * s + z) (wr 1)) k i j = rd m k i j := fun k i j hk => rd_st_ne hk
  obtain ⟨g1, g2, g3, g4, g5⟩ := h.1.1
  refine ⟨fun s' q0 q1 => ?_, ?_, fun s' y q0 q1 y0 y1 => ?_, fun s' n q0 q1 n0 n1 => ?_, fun s' i n q0 q1 i0 i1 n0 n1 => ?_⟩
  · rw [ra 11 _ _ (by decide), ra 11 _ _ (by decide), rm 41 _ _ (by decide), rm 42 _ _ (by decide)]; exact g1 s' q0 q1
  · rw [ra 5 _ _ (by decide), rm 40 _ _ (by decide)]; exact g2
  · rw [ra 12 _ _ (by decide), rm 44 _ _ (by decide), rd_st, rd_st]
    obtain ⟨f1, f2, f3, f4⟩ := g3 s' y q0 q1 y0 y1
    by_cases c : s' = s ∧ y = z
    · rw [if_pos ⟨rfl, c⟩, if_pos ⟨rfl, rfl, by omega⟩]; exact ⟨f1, by decide, Or.inr (by decide), f4⟩
    · rw [if_neg (fun q => c q.2), if_neg (by omega)]; exact ⟨f1, f2, f3, f4⟩
  · rw [ra 14 _ _ (by decide), ra 15 _ _ (by decide), rm 46 _ _ (by decide), mtC_of (fun j => rm 46 0 j (by decide))]; exact g4 s' n q0 q1 n0 n1
  · rw [ra 16 _ _ (by decide), rm 47 _ _ (by decide)]; exact g5 s' i n q0 q1 i0 i1 n0 n1
theorem tell_weather {s b e : Int} (s0 : 0 ≤ s) (s1 : s < 3) (b0 : 0 ≤ b) (b1 : b < 30) (e0 : 0 ≤ e) (e1 : e < 100) : ∀ (k : Nat) (c : Int) (a m : Mm), 0 ≤ c → c + k ≤ 24 → FU a m → FU (fori (fun j m => st m 12 s (b * 24 + j) (wr e)) k c a) (fori (fun j m => st m 44 0 (720 * s + 24 * b + j) (wr e)) k c m)
  | 0, _, _, _, _, _, h => h
  | k + 1, c, a, m, c0, ck, h => by
    refine tell_weather s0 s1 b0 b1 e0 e1 k (c + 1) _ _ (by omega) (by omega) ?_
    have := tell_w1 h (z := b * 24 + c) (e := e) s0 s1 (by omega) (by omega) e0 e1
    rwa [show 720 * s + (b * 24 + c) = 720 * s + 24 * b + c by omega] at this
theorem tell_fault {s b : Int} (s0 : 0 ≤ s) (s1 : s < 3) (b0 : 0 ≤ b) (b1 : b < 30) : ∀ (k : Nat) (c : Int) (a m : Mm), 0 ≤ c → c + k ≤ 24 → FU a m → FU (fori (fun j m => st m 13 s (b * 24 + j) (wr 1 % 2)) k c a) (fori (fun j m => st m 45 0 (720 * s + 24 * b + j) (wr 1)) k c m)
  | 0, _, _, _, _, _, h => h
  | k + 1, c, a, m, c0, ck, h => by
    refine tell_fault s0 s1 b0 b1 k (c + 1) _ _ (by omega) (by omega) ?_
    have := tell_f1 h (z := b * 24 + c) s0 s1 (by omega) (by omega)
    rwa [show 720 * s + (b * 24 + c) = 720 * s + 24 * b + c by omega] at this
theorem tell_cal {a m : Mm} (h : FU a m) {s i n : Int} (s0 : 0 ≤ s) (s1 : s < 3) (i0 : 0 ≤ i) (i1 : i < 3) (n0 : 0 ≤ n) (n1 : n < 30) : FU (st a 16 s (i * 30 + n) (wr 1 % 2)) (st m 47 0 (90 * s + 30 * i + n) (wr 1)) := by
  refine FU_sky h ?_ (fun k i j _ hk => by rw [rd_st_ne (by omega)]) (fun k i j _ hk => by rw [rd_st_ne (by omega)])
  have ra : ∀ (k : Nat) (i' j : Int), k ≠ 16 → rd (st a 16 s (i * 30 + n) (wr 1 % 2)) k i' j = rd a k i' j := fun k i j hk => rd_st_ne hk
  have rm : ∀ (k : Nat) (i' j : Int), k ≠ 47 → rd (st m 47 0 (90 * s + 30 * i + n) (wr 1)) k i' j = rd m k i' j := fun k i j hk => rd_st_ne hk
  obtain ⟨g1, g2, g3, g4, g5⟩ := h.1.1
  refine ⟨fun s' q0 q1 => ?_, ?_, fun s' y q0 q1 y0 y1 => ?_, fun s' n q0 q1 n0 n1 => ?_, fun s' i' n' q0 q1 z0 z1 y0 y1 => ?_⟩
  · rw [ra 11 _ _ (by decide), ra 11 _ _ (by decide), rm 41 _ _ (by decide), rm 42 _ _ (by decide)]; exact g1 s' q0 q1
  · rw [ra 5 _ _ (by decide), rm 40 _ _ (by decide)]; exact g2
  · rw [ra 12 _ _ (by decide), ra 13 _ _ (by decide), rm 44 _ _ (by decide), rm 45 _ _ (by decide)]; exact g3 s' y q0 q1 y0 y1
  · rw [ra 14 _ _ (by decide), ra 15 _ _ (by decide), rm 46 _ _ (by decide), mtC_of (fun j => rm 46 0 j (by decide))]; exact g4 s' n q0 q1 n0 n1
  · rw [rd_st, rd_st]
    by_cases c : s' = s ∧ i' * 30 + n' = i * 30 + n
    · rw [if_pos ⟨rfl, c⟩, if_pos ⟨rfl, rfl, by omega⟩]; decide
    · rw [if_neg (fun q => c q.2), if_neg (by omega)]; exact g5 s' i' n' q0 q1 z0 z1 y0 y1
theorem tell_share {a m : Mm} (h : FU a m) {g b : Int} (g0 : 0 ≤ g) (g1 : g < 4) : FU (st a 7 0 g (wr b)) (st m 48 0 g (wr b)) := by
  have ra : ∀ (k : Nat) (i' j : Int), k ≠ 7 → rd (st a 7 0 g (wr b)) k i' j = rd a k i' j := fun k i j hk => rd_st_ne hk
  have rm : ∀ (k : Nat) (i' j : Int), k ≠ 48 → rd (st m 48 0 g (wr b)) k i' j = rd m k i' j := fun k i j hk => rd_st_ne hk
  have hI := h.2.2.2.2.2.2.2.1
  obtain ⟨hS, ⟨f1, f2, f3, f4, f5, f6, f7⟩, hM⟩ := h.1
  have ea : ∀ k i t, k ≠ 7 → aimR a m k i t → aimR (st a 7 0 g (wr b)) (st m 48 0 g (wr b)) k i t := fun k i t hk hr => by
    unfold aimR at hr ⊢
    rw [ra k _ _ hk, ra k _ _ hk, ra k _ _ hk, ra k _ _ hk, ra k _ _ hk, ra k _ _ hk, ra k _ _ hk, rm 55 _ _ (by decide), rm 56 _ _ (by decide), rm 57 _ _ (by decide), rm 58 _ _ (by decide), rm 59 _ _ (by decide), rm 60 _ _ (by decide), rm 61 _ _ (by decide)]
    exact hr
  refine FU_tell h ⟨SK_of hS (fun k i j hk => ra k i j (by omega)) (fun k j hk => rm k 0 j (by omega)), ⟨?_, fun g' q0 q1 => ?_, fun q q0 q1 => ?_, fun t q0 q1 => ?_, fun i q0 q1 => ?_, fun i q0 q1 => ?_, fun t q0 q1 => ?_⟩, IM_of hM (fun k i j hk => rm k i j (by omega))⟩ ?_ (fun k i j hk => ra k i j (by omega)) (fun k i j hk => rm k i j (by omega)) ?_ ?_ (fun t _ => rm 57 0 t (by decide))
  · rw [ra 5 _ _ (by decide), ra 5 _ _ (by decide), ra 5 _ _ (by decide), rm 40 _ _ (by decide), rm 40 _ _ (by decide), rm 40 _ _ (by decide)]; exact f1
  · rw [rd_st, rd_st]
    by_cases c : g' = g
    · rw [if_pos ⟨rfl, rfl, c⟩, if_pos ⟨rfl, rfl, c⟩]
    · rw [if_neg (fun q => c q.2.2), if_neg (fun q => c q.2.2)]; exact f2 g' q0 q1
  · rw [ra 17 _ _ (by decide), ra 17 _ _ (by decide), ra 17 _ _ (by decide), ra 17 _ _ (by decide), rm 49 _ _ (by decide), rm 50 _ _ (by decide), rm 51 _ _ (by decide), rm 52 _ _ (by decide)]; exact f3 q q0 q1
  · rw [rm 40 _ _ (by decide)] at q1
    obtain ⟨⟨k1, k2⟩, k3⟩ := f4 t q0 q1
    refine ⟨⟨ea _ _ _ (by decide) k1, ?_⟩, ?_⟩
    · rw [ra 18 _ _ (by decide), ra 18 _ _ (by decide), ra 18 _ _ (by decide), ra 18 _ _ (by decide), ra 18 _ _ (by decide), ra 18 _ _ (by decide), ra 18 _ _ (by decide), ra 18 _ _ (by decide), ra 18 _ _ (by decide), rm 54 _ _ (by decide), rm 49 _ _ (by decide), rm 51 _ _ (by decide), rm 62 _ _ (by decide), rm 63 _ _ (by decide), rm 64 _ _ (by decide), rm 65 _ _ (by decide)]; exact k2
    · rw [rm 54 _ _ (by decide), rm 40 _ _ (by decide)]; exact k3
  · rw [rm 40 _ _ (by decide)] at q1
    obtain ⟨k1, k2⟩ := f5 i q0 q1
    refine ⟨ea _ _ _ (by decide) k1, ?_⟩
    rw [ra 19 _ _ (by decide), ra 19 _ _ (by decide), ra 19 _ _ (by decide), ra 19 _ _ (by decide), rm 54 _ _ (by decide), rm 67 _ _ (by decide), rm 68 _ _ (by decide), rm 69 _ _ (by decide), rm 70 _ _ (by decide)]; exact k2
  · rw [ra 19 _ _ (by decide), ra 19 _ _ (by decide), ra 19 _ _ (by decide), ra 19 _ _ (by decide), rm 59 _ _ (by decide), rm 60 _ _ (by decide), rm 61 _ _ (by decide)]; exact f6 i q0 q1
  · rw [rm 40 _ _ (by decide)] at q0
    rw [ra 18 _ _ (by decide)]; exact f7 t q0 q1
  · exact IA_of4 hI (fun k i j hk => ra k i j (by omega))
  · rw [rm 40 _ _ (by decide)]; exact Int.le_refl _
  · rw [rm 40 _ _ (by decide)]; exact Int.le_refl _
