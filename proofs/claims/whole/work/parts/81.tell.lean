/-! ===== class and model side by side, XX: proposals, targets, series, alerts ===== -/
theorem aimR_of {a m a' m' : Mm} {k : Nat} {i t : Int} (h : aimR a m k i t) (ha : ∀ j, 1 ≤ j → j ≤ 7 → rd a' k i j = rd a k i j) (hm : ∀ k9 : Nat, 55 ≤ k9 → k9 ≤ 61 → rd m' k9 0 t = rd m k9 0 t) : aimR a' m' k i t := by
  unfold aimR at h ⊢
  rw [ha 1 (by decide) (by decide), ha 2 (by decide) (by decide), ha 3 (by decide) (by decide), ha 4 (by decide) (by decide), ha 5 (by decide) (by decide), ha 6 (by decide) (by decide), ha 7 (by decide) (by decide), hm 55 (by decide) (by decide), hm 56 (by decide) (by decide), hm 57 (by decide) (by decide), hm 58 (by decide) (by decide), hm 59 (by decide) (by decide), hm 60 (by decide) (by decide), hm 61 (by decide) (by decide)]
  exact h
theorem alR_of {a m a' m' : Mm} {i : Int} (h : alR a m i) (ha : ∀ j, rd a' 19 i j = rd a 19 i j) (hm : ∀ k9 : Nat, 54 ≤ k9 → k9 ≤ 61 → rd m' k9 0 (24 + i) = rd m k9 0 (24 + i)) (hm2 : ∀ k9 : Nat, 67 ≤ k9 → k9 ≤ 70 → rd m' k9 0 i = rd m k9 0 i) : alR a' m' i := by
  obtain ⟨h1, h2⟩ := h
  refine ⟨aimR_of h1 (fun j _ _ => ha j) (fun k9 k0 k1 => hm k9 (by omega) k1), ?_⟩
  rw [ha, ha, ha, ha, hm 54 (by decide) (by decide), hm2 67 (by decide) (by decide), hm2 68 (by decide) (by decide), hm2 69 (by decide) (by decide), hm2 70 (by decide) (by decide)]
  exact h2
theorem tgR_of {a m a' m' : Mm} {t : Int} (h : tgR a m t) (ha : ∀ j, rd a' 18 t j = rd a 18 t j) (hm : ∀ k9 : Nat, 54 ≤ k9 → k9 ≤ 65 → rd m' k9 0 t = rd m k9 0 t) (hp : ∀ k9 : Nat, k9 = 49 ∨ k9 = 51 → rd m' k9 0 (rd m 54 0 t) = rd m k9 0 (rd m 54 0 t)) : tgR a' m' t := by
  obtain ⟨h1, h2⟩ := h
  refine ⟨aimR_of h1 (fun j _ _ => ha j) (fun k9 k0 k1 => hm k9 (by omega) (by omega)), ?_⟩
  rw [ha, ha, ha, ha, ha, ha, ha, ha, ha, hm 54 (by decide) (by decide), hp 49 (by decide), hp 51 (by decide), hm 62 (by decide) (by decide), hm 63 (by decide) (by decide), hm 64 (by decide) (by decide), hm 65 (by decide) (by decide)]
  exact h2
theorem tell_prop {a m : Mm} (h : FU a m) {g r q d : Int} (g0 : 0 ≤ g) (g1 : g < 4) (r0 : 0 ≤ r) (r1 : r ≤ 9) (q0 : 0 ≤ q) (q1 : q ≤ 100) (d0 : 0 ≤ d) (d1 : d ≤ 30) (hc : rd m 40 0 12 < 8) : FU (proC a g r q d) (proF g r q d m) := by
  have hI := h.2.2.2.2.2.2.2.1
  obtain ⟨hS, ⟨f1, f2, f3, f4, f5, f6, f7⟩, hM⟩ := h.1
  have c0 : 0 ≤ rd m 40 0 12 := hM.1.1
  have e6 : rd a 5 0 6 = rd m 40 0 12 := f1.1
  have ra : ∀ (k : Nat) (i j : Int), ¬ (k = 5 ∧ j = 6) → ¬ (k = 17 ∧ i = rd m 40 0 12) → rd (proC a g r q d) k i j = rd a k i j := fun k i j hk hk2 => by
    unfold proC
    rw [e6, rd_stx hk2, rd_stx hk2, rd_stx hk2, rd_stx hk2, rd_st, if_neg (by omega)]
  have a6 : rd (proC a g r q d) 5 0 6 = rd m 40 0 12 + 1 := by
    unfold proC
    rw [e6, rd_st_ne (by decide), rd_st_ne (by decide), rd_st_ne (by decide), rd_st_ne (by decide), rd_st, if_pos ⟨rfl, rfl, rfl⟩, wr_wr, wr_of (by omega) (by omega)]
  have an : rd (proC a g r q d) 17 (rd m 40 0 12) 0 = g ∧ rd (proC a g r q d) 17 (rd m 40 0 12) 1 = r ∧ rd (proC a g r q d) 17 (rd m 40 0 12) 2 = q ∧ rd (proC a g r q d) 17 (rd m 40 0 12) 3 = d := by
    unfold proC
    rw [e6]
    simp [rd_st, wr_wr]
    exact ⟨wr_of (by omega) (by omega), wr_of (by omega) (by omega), wr_of (by omega) (by omega), wr_of (by omega) (by omega)⟩
  have rm : ∀ (k : Nat) (i j : Int), ¬ (k = 40 ∧ j = 12) → ¬ (49 ≤ k ∧ k ≤ 52 ∧ j = rd m 40 0 12) → rd (proF g r q d m) k i j = rd m k i j := fun k i j hk hk2 => by
    unfold proF
    rw [rd_st, if_neg (by omega), rd_st, if_neg (by omega), rd_st, if_neg (by omega), rd_st, if_neg (by omega), rd_st, if_neg (by omega)]
  have m12 : rd (proF g r q d m) 40 0 12 = rd m 40 0 12 + 1 := by
    unfold proF
    rw [rd_st, if_pos ⟨rfl, rfl, rfl⟩, wr_wr, wr_of (by omega) (by omega)]
  have mn : rd (proF g r q d m) 49 0 (rd m 40 0 12) = g ∧ rd (proF g r q d m) 50 0 (rd m 40 0 12) = r ∧ rd (proF g r q d m) 51 0 (rd m 40 0 12) = q ∧ rd (proF g r q d m) 52 0 (rd m 40 0 12) = d := by
    unfold proF
    simp [rd_st, wr_wr]
    exact ⟨wr_of (by omega) (by omega), wr_of (by omega) (by omega), wr_of (by omega) (by omega), wr_of (by omega) (by omega)⟩
  have hM' : IM (proF g r q d m) := by
    obtain ⟨i1, i2, i3, i4, i5, i6, i7⟩ := hM
    refine ⟨?_, ?_, ?_, fun t t0 t1 => ?_, fun t t0 t1 => ?_, fun z z0 z1 => ?_, fun t t0 t1 => ?_⟩
    · rw [m12]; omega
    · rw [rm 40 _ _ (by omega) (by omega)]; exact i2
    · rw [rm 40 _ _ (by omega) (by omega)]; exact i3
    · rw [rm 54 _ _ (by omega) (by omega), rm 57 _ _ (by omega) (by omega), rm 58 _ _ (by omega) (by omega)]; exact i4 t t0 t1
    · rw [rm 54 _ _ (by omega) (by omega)]; exact i5 t t0 t1
    · by_cases e : z = rd m 40 0 12
      · rw [e, mn.1]; omega
      · rw [rm 49 _ _ (by omega) (by omega)]; exact i6 z z0 z1
    · rw [rm 62 _ _ (by omega) (by omega)]; exact i7 t t0 t1
  refine FU_tell h ⟨SK_of hS (fun k i j hk => ra k i j (by omega) (by omega)) (fun k j hk => rm k 0 j (by omega) (by omega)), ⟨?_, fun z z0 z1 => ?_, fun z z0 z1 => ?_, fun t q0 q1 => ?_, fun i q0 q1 => ?_, fun i q0 q1 => ?_, fun t q0 q1 => ?_⟩, hM'⟩ ?_ (fun k i j hk => ra k i j (by omega) (by omega)) (fun k i j hk => rm k i j (by omega) (by omega)) ?_ ?_ (fun t _ => rm 57 0 t (by omega) (by omega))
  · rw [a6, m12, ra 5 _ _ (by omega) (by omega), ra 5 _ _ (by omega) (by omega), rm 40 _ _ (by omega) (by omega), rm 40 _ _ (by omega) (by omega)]; exact ⟨rfl, f1.2⟩
  · rw [ra 7 _ _ (by omega) (by omega), rm 48 _ _ (by omega) (by omega)]; exact f2 z z0 z1
  · by_cases e : z = rd m 40 0 12
    · rw [e, an.1, an.2.1, an.2.2.1, an.2.2.2, mn.1, mn.2.1, mn.2.2.1, mn.2.2.2]; exact ⟨rfl, rfl, rfl, rfl, ⟨r0, r1⟩, by omega⟩
    · rw [ra 17 _ _ (by omega) (by omega), ra 17 _ _ (by omega) (by omega), ra 17 _ _ (by omega) (by omega), ra 17 _ _ (by omega) (by omega), rm 49 _ _ (by omega) (by omega), rm 50 _ _ (by omega) (by omega), rm 51 _ _ (by omega) (by omega), rm 52 _ _ (by omega) (by omega)]; exact f3 z z0 z1
  · rw [rm 40 _ _ (by omega) (by omega)] at q1
    obtain ⟨k1, k2⟩ := f4 t q0 q1
    refine ⟨tgR_of k1 (fun j => ra 18 _ _ (by omega) (by omega)) (fun k9 y0 y1 => rm k9 _ _ (by omega) (by omega)) (fun k9 hk => rm k9 _ _ (by omega) (by omega)), ?_⟩
    rw [rm 54 _ _ (by omega) (by omega), m12]; omega
  · rw [rm 40 _ _ (by omega) (by omega)] at q1
    exact alR_of (f5 i q0 q1) (fun j => ra 19 _ _ (by omega) (by omega)) (fun k9 y0 y1 => rm k9 _ _ (by omega) (by omega)) (fun k9 y0 y1 => rm k9 _ _ (by omega) (by omega))
  · rw [ra 19 _ _ (by omega) (by omega), ra 19 _ _ (by omega) (by omega), ra 19 _ _ (by omega) (by omega), ra 19 _ _ (by omega) (by omega), rm 59 _ _ (by omega) (by omega), rm 60 _ _ (by omega) (by omega), rm 61 _ _ (by omega) (by omega)]; exact f6 i q0 q1
  · rw [rm 40 _ _ (by omega) (by omega)] at q0
    rw [ra 18 _ _ (by omega) (by omega)]; exact f7 t q0 q1
  · obtain ⟨i1, i2, i3, i4, i5, i6⟩ := hI
    refine ⟨fun t t0 t1 => ?_, fun t t0 t1 => ?_, fun z z0 z1 => ?_, ?_, ?_, ?_⟩
    · unfold tOK
      rw [ra 18 _ _ (by omega) (by omega), ra 18 _ _ (by omega) (by omega), ra 18 _ _ (by omega) (by omega), ra 18 _ _ (by omega) (by omega), ra 18 _ _ (by omega) (by omega)]; exact i1 t t0 t1
    · unfold aOK
      rw [ra 19 _ _ (by omega) (by omega), ra 19 _ _ (by omega) (by omega), ra 19 _ _ (by omega) (by omega)]; exact i2 t t0 t1
    · by_cases e : z = rd m 40 0 12
      · rw [e, an.1]; omega
      · rw [ra 17 _ _ (by omega) (by omega)]; exact i3 z z0 z1
    · rw [a6]; omega
    · rw [ra 5 _ _ (by omega) (by omega)]; exact i5
    · rw [ra 5 _ _ (by omega) (by omega)]; exact i6
  · rw [rm 40 _ _ (by omega) (by omega)]; exact Int.le_refl _
  · rw [rm 40 _ _ (by omega) (by omega)]; exact Int.le_refl _
theorem tell_target {a m : Mm} (h : FU a m) {p b y d i f g v w : Int} (p0 : 0 ≤ p) (p1 : p < rd m 40 0 12) (i0 : 0 ≤ i) (i1 : i < 3) (b0 : 0 ≤ b) (b1 : b ≤ 359) (y0 : -90 ≤ y) (y1 : y ≤ 90) (d0 : 1 ≤ d) (d1 : d ≤ 6) (f0' : 0 ≤ f) (f1' : f ≤ 90) (g0 : 0 ≤ g) (g1 : g ≤ 100) (v0 : 1 ≤ v) (v1 : v ≤ 50) (w0 : 1 ≤ w) (w1 : w ≤ 10) (hc : rd m 40 0 25 < 24) : FU (tgC a p b y d i f g v w) (tgtF p b y d i f g v w m) := by
  have hI := h.2.2.2.2.2.2.2.1
  obtain ⟨hS, ⟨f1, f2, f3, f4, f5, f6, f7⟩, hM⟩ := h.1
  have c0 : 0 ≤ rd m 40 0 25 := hM.2.1.1
  have p8 : rd m 40 0 12 ≤ 8 := hM.1.2
  have e7 : rd a 5 0 7 = rd m 40 0 25 := f1.2.1
  have ra : ∀ (k : Nat) (i' j : Int), ¬ (k = 5 ∧ j = 7) → ¬ (k = 18 ∧ i' = rd m 40 0 25) → rd (tgC a p b y d i f g v w) k i' j = rd a k i' j := fun k i' j hk hk2 => by
    unfold tgC tg3 tg2 tg1 aimC
    rw [e7, rd_stx hk2, rd_stx hk2, rd_stx hk2, rd_stx hk2, rd_stx hk2, rd_stx hk2, rd_stx hk2, rd_stx hk2, rd_stx hk2, rd_stx hk2, rd_stx hk2, rd_stx hk2, rd_st, if_neg (by omega)]
  have a7 : rd (tgC a p b y d i f g v w) 5 0 7 = rd m 40 0 25 + 1 := by
    unfold tgC tg3 tg2 tg1 aimC
    rw [e7]
    simp [rd_st, wr_wr]
    exact wr_of (by omega) (by omega)
  have an : rd (tgC a p b y d i f g v w) 18 (rd m 40 0 25) 0 = rd a 17 p 0 ∧ rd (tgC a p b y d i f g v w) 18 (rd m 40 0 25) 1 = b ∧ rd (tgC a p b y d i f g v w) 18 (rd m 40 0 25) 2 = y ∧ rd (tgC a p b y d i f g v w) 18 (rd m 40 0 25) 3 = d ∧ rd (tgC a p b y d i f g v w) 18 (rd m 40 0 25) 4 = i ∧ rd (tgC a p b y d i f g v w) 18 (rd m 40 0 25) 5 = f ∧ rd (tgC a p b y d i f g v w) 18 (rd m 40 0 25) 6 = g ∧ rd (tgC a p b y d i f g v w) 18 (rd m 40 0 25) 7 = v ∧ rd (tgC a p b y d i f g v w) 18 (rd m 40 0 25) 8 = rd a 17 p 2 ∧ rd (tgC a p b y d i f g v w) 18 (rd m 40 0 25) 9 = rd m 40 0 25 ∧ rd (tgC a p b y d i f g v w) 18 (rd m 40 0 25) 10 = p ∧ rd (tgC a p b y d i f g v w) 18 (rd m 40 0 25) 11 = w ∧ rd (tgC a p b y d i f g v w) 18 (rd m 40 0 25) 12 = 0 := by
    have z12 := f7 _ (Int.le_refl _) hc
    unfold tgC tg3 tg2 tg1 aimC
    rw [e7]
    simp [rd_st, wr_wr, wr_rd, z12]
    exact ⟨wr_of (by omega) (by omega), wr_of (by omega) (by omega), wr_of (by omega) (by omega), wr_of (by omega) (by omega), wr_of (by omega) (by omega), wr_of (by omega) (by omega), wr_of (by omega) (by omega), wr_of (by omega) (by omega), wr_of (by omega) (by omega)⟩
  have rm : ∀ (k : Nat) (i' j : Int), ¬ (k = 40 ∧ j = 25) → ¬ (54 ≤ k ∧ k ≤ 63 ∧ j = rd m 40 0 25) → rd (tgtF p b y d i f g v w m) k i' j = rd m k i' j := fun k i' j hk hk2 => by
    unfold tgtF layC
    rw [rd_st, if_neg (by omega), rd_st, if_neg (by omega), rd_st, if_neg (by omega), rd_st, if_neg (by omega), rd_st, if_neg (by omega), rd_st, if_neg (by omega), rd_st, if_neg (by omega), rd_st, if_neg (by omega), rd_st, if_neg (by omega), rd_st, if_neg (by omega), rd_st, if_neg (by omega)]
  have m25 : rd (tgtF p b y d i f g v w m) 40 0 25 = rd m 40 0 25 + 1 := by
    unfold tgtF
    rw [rd_st, if_pos ⟨rfl, rfl, rfl⟩, wr_wr, wr_of (by omega) (by omega)]
  have mn : rd (tgtF p b y d i f g v w m) 54 0 (rd m 40 0 25) = p ∧ rd (tgtF p b y d i f g v w m) 55 0 (rd m 40 0 25) = b ∧ rd (tgtF p b y d i f g v w m) 56 0 (rd m 40 0 25) = y ∧ rd (tgtF p b y d i f g v w m) 57 0 (rd m 40 0 25) = d ∧ rd (tgtF p b y d i f g v w m) 58 0 (rd m 40 0 25) = i ∧ rd (tgtF p b y d i f g v w m) 59 0 (rd m 40 0 25) = f ∧ rd (tgtF p b y d i f g v w m) 60 0 (rd m 40 0 25) = g ∧ rd (tgtF p b y d i f g v w m) 61 0 (rd m 40 0 25) = v ∧ rd (tgtF p b y d i f g v w m) 62 0 (rd m 40 0 25) = w ∧ rd (tgtF p b y d i f g v w m) 63 0 (rd m 40 0 25) = -1 := by
    unfold tgtF layC
    simp [rd_st, wr_wr]
    exact ⟨wr_of (by omega) (by omega), wr_of (by omega) (by omega), wr_of (by omega) (by omega), wr_of (by omega) (by omega), wr_of (by omega) (by omega), wr_of (by omega) (by omega), wr_of (by omega) (by omega), wr_of (by omega) (by omega), wr_of (by omega) (by omega), by decide⟩
  obtain ⟨an0, an1, an2, an3, an4, an5, an6, an7, an8, an9, an10, an11, an12⟩ := an
  obtain ⟨mn4, mn5, mn6, mn7, mn8, mn9, mn10, mn11, mn12, mn13⟩ := mn
  obtain ⟨hp0, hp1, hp2, hp3, hp4, hp5⟩ := f3 p p0 (by omega)
  have hgp := hM.2.2.2.2.2.1 p p0 (by omega)
  have hM' : IM (tgtF p b y d i f g v w m) := by
    obtain ⟨j1, j2, j3, j4, j5, j6, j7⟩ := hM
    refine ⟨?_, ?_, ?_, fun t t0 t1 => ?_, fun t t0 t1 => ?_, fun z z0 z1 => ?_, fun t t0 t1 => ?_⟩
    · rw [rm 40 _ _ (by omega) (by omega)]; exact j1
    · rw [m25]; omega
    · rw [rm 40 _ _ (by omega) (by omega)]; exact j3
    · by_cases e : t = rd m 40 0 25
      · rw [e, mn4, mn7, mn8]; omega
      · rw [rm 54 _ _ (by omega) (by omega), rm 57 _ _ (by omega) (by omega), rm 58 _ _ (by omega) (by omega)]; exact j4 t t0 t1
    · rw [rm 54 _ _ (by omega) (by omega)]; exact j5 t t0 t1
    · rw [rm 49 _ _ (by omega) (by omega)]; exact j6 z z0 z1
    · by_cases e : t = rd m 40 0 25
      · rw [e, mn12]; omega
      · rw [rm 62 _ _ (by omega) (by omega)]; exact j7 t t0 t1
  refine FU_tell h ⟨SK_of hS (fun k i j hk => ra k i j (by omega) (by omega)) (fun k j hk => rm k 0 j (by omega) (by omega)), ⟨?_, fun z z0 z1 => ?_, fun z z0 z1 => ?_, fun t q0 q1 => ?_, fun i q0 q1 => ?_, fun i q0 q1 => ?_, fun t q0 q1 => ?_⟩, hM'⟩ ?_ (fun k i j hk => ra k i j (by omega) (by omega)) (fun k i j hk => rm k i j (by omega) (by omega)) ?_ ?_ (fun t ht => rm 57 0 t (by omega) (by omega))
  · rw [a7, m25, ra 5 _ _ (by omega) (by omega), ra 5 _ _ (by omega) (by omega), rm 40 _ _ (by omega) (by omega), rm 40 _ _ (by omega) (by omega)]; exact ⟨f1.1, rfl, f1.2.2⟩
  · rw [ra 7 _ _ (by omega) (by omega), rm 48 _ _ (by omega) (by omega)]; exact f2 z z0 z1
  · rw [ra 17 _ _ (by omega) (by omega), ra 17 _ _ (by omega) (by omega), ra 17 _ _ (by omega) (by omega), ra 17 _ _ (by omega) (by omega), rm 49 _ _ (by omega) (by omega), rm 50 _ _ (by omega) (by omega), rm 51 _ _ (by omega) (by omega), rm 52 _ _ (by omega) (by omega)]; exact f3 z z0 z1
  · rw [m25] at q1
    by_cases e : t = rd m 40 0 25
    · subst e
      refine ⟨⟨?_, ?_⟩, ?_⟩
      · unfold aimR
        rw [an1, an2, an3, an4, an5, an6, an7, mn5, mn6, mn7, mn8, mn9, mn10, mn11]
        exact ⟨rfl, rfl, rfl, rfl, rfl, rfl, rfl, ⟨i0, i1⟩, d0, d1⟩
      · rw [an10, an0, an8, an9, an11, an12, mn4, mn12, mn13, rm 49 _ _ (by omega) (by omega), rm 51 _ _ (by omega) (by omega)]
        exact ⟨rfl, hp0, hp2, rfl, rfl, ⟨by omega, w1⟩, by decide, fun c => absurd c (by decide)⟩
      · rw [mn4, rm 40 _ _ (by omega) (by omega)]; exact p1
    · obtain ⟨k1, k2⟩ := f4 t q0 (by omega)
      refine ⟨tgR_of k1 (fun j => ra 18 _ _ (by omega) (by omega)) (fun k9 z0 z1 => rm k9 _ _ (by omega) (by omega)) (fun k9 hk => rm k9 _ _ (by omega) (by omega)), ?_⟩
      rw [rm 54 _ _ (by omega) (by omega), rm 40 _ _ (by omega) (by omega)]; exact k2
  · rw [rm 40 _ _ (by omega) (by omega)] at q1
    exact alR_of (f5 i q0 q1) (fun j => ra 19 _ _ (by omega) (by omega)) (fun k9 z0 z1 => rm k9 _ _ (by omega) (by omega)) (fun k9 z0 z1 => rm k9 _ _ (by omega) (by omega))
  · rw [ra 19 _ _ (by omega) (by omega), ra 19 _ _ (by omega) (by omega), ra 19 _ _ (by omega) (by omega), ra 19 _ _ (by omega) (by omega), rm 59 _ _ (by omega) (by omega), rm 60 _ _ (by omega) (by omega), rm 61 _ _ (by omega) (by omega)]; exact f6 i q0 q1
  · rw [m25] at q0
    rw [ra 18 _ _ (by omega) (by omega)]; exact f7 t (by omega) q1
  · obtain ⟨j1, j2, j3, j4, j5, j6⟩ := hI
    refine ⟨fun t t0 t1 => ?_, fun t t0 t1 => ?_, fun z z0 z1 => ?_, ?_, ?_, ?_⟩
    · unfold tOK
      by_cases e : t = rd m 40 0 25
      · rw [e, an0, an3, an4, an9, an10]
        omega
      · rw [ra 18 _ _ (by omega) (by omega), ra 18 _ _ (by omega) (by omega), ra 18 _ _ (by omega) (by omega), ra 18 _ _ (by omega) (by omega), ra 18 _ _ (by omega) (by omega)]; exact j1 t t0 t1
    · unfold aOK
      rw [ra 19 _ _ (by omega) (by omega), ra 19 _ _ (by omega) (by omega), ra 19 _ _ (by omega) (by omega)]; exact j2 t t0 t1
    · rw [ra 17 _ _ (by omega) (by omega)]; exact j3 z z0 z1
    · rw [ra 5 _ _ (by omega) (by omega)]; exact j4
    · rw [a7]; omega
    · rw [ra 5 _ _ (by omega) (by omega)]; exact j6
  · rw [m25]; omega
  · rw [rm 40 _ _ (by omega) (by omega)]; exact Int.le_refl _
theorem tell_series {a m : Mm} (h : FU a m) {t0 b c d : Int} (k0 : 0 ≤ t0) (k1 : t0 < rd m 40 0 25) (b0 : 0 ≤ b) (b1 : b < 30) (c0 : 1 ≤ c) (c1 : c ≤ 30) (d0 : 0 ≤ d) (d1 : d ≤ 5) : FU (serC a t0 b c d) (serF t0 b c d m) := by
  have hI := h.2.2.2.2.2.2.2.1
  obtain ⟨hS, ⟨f1, f2, f3, f4, f5, f6, f7⟩, hM⟩ := h.1
  have hT : rd m 40 0 25 ≤ 24 := hM.2.1.2
  have ra : ∀ (k : Nat) (i j : Int), ¬ (k = 18 ∧ i = t0 ∧ 12 ≤ j) → rd (serC a t0 b c d) k i j = rd a k i j := fun k i j hk => by
    unfold serC
    rw [rd_st, if_neg (by omega), rd_st, if_neg (by omega), rd_st, if_neg (by omega), rd_st, if_neg (by omega)]
  have an : rd (serC a t0 b c d) 18 t0 12 = 1 ∧ rd (serC a t0 b c d) 18 t0 13 = b ∧ rd (serC a t0 b c d) 18 t0 14 = c ∧ rd (serC a t0 b c d) 18 t0 15 = d := by
    unfold serC
    simp [rd_st, wr_wr]
    exact ⟨by decide, wr_of (by omega) (by omega), wr_of (by omega) (by omega), wr_of (by omega) (by omega)⟩
  have rm : ∀ (k : Nat) (i j : Int), ¬ (63 ≤ k ∧ k ≤ 65 ∧ j = t0) → rd (serF t0 b c d m) k i j = rd m k i j := fun k i j hk => by
    unfold serF
    rw [rd_st, if_neg (by omega), rd_st, if_neg (by omega), rd_st, if_neg (by omega)]
  have mn : rd (serF t0 b c d m) 63 0 t0 = b ∧ rd (serF t0 b c d m) 64 0 t0 = c ∧ rd (serF t0 b c d m) 65 0 t0 = d := by
    unfold serF
    simp [rd_st, wr_wr]
    exact ⟨wr_of (by omega) (by omega), wr_of (by omega) (by omega), wr_of (by omega) (by omega)⟩
  have ea : ∀ t, aimR a m 18 t t → aimR (serC a t0 b c d) (serF t0 b c d m) 18 t t := fun t hr => aimR_of hr (fun j j0 j1 => ra 18 _ _ (by omega)) (fun k9 z0 z1 => rm k9 _ _ (by omega))
  have hM' : IM (serF t0 b c d m) := by
    obtain ⟨j1, j2, j3, j4, j5, j6, j7⟩ := hM
    refine ⟨?_, ?_, ?_, fun t t0 t1 => ?_, fun t t0 t1 => ?_, fun z z0 z1 => ?_, fun t t0 t1 => ?_⟩
    · rw [rm 40 _ _ (by omega)]; exact j1
    · rw [rm 40 _ _ (by omega)]; exact j2
    · rw [rm 40 _ _ (by omega)]; exact j3
    · rw [rm 54 _ _ (by omega), rm 57 _ _ (by omega), rm 58 _ _ (by omega)]; exact j4 t t0 t1
    · rw [rm 54 _ _ (by omega)]; exact j5 t t0 t1
    · rw [rm 49 _ _ (by omega)]; exact j6 z z0 z1
    · rw [rm 62 _ _ (by omega)]; exact j7 t t0 t1
  refine FU_tell h ⟨SK_of hS (fun k i j hk => ra k i j (by omega)) (fun k j hk => rm k 0 j (by omega)), ⟨?_, fun z z0 z1 => ?_, fun z z0 z1 => ?_, fun t q0 q1 => ?_, fun i q0 q1 => ?_, fun i q0 q1 => ?_, fun t q0 q1 => ?_⟩, hM'⟩ ?_ (fun k i j hk => ra k i j (by omega)) (fun k i j hk => rm k i j (by omega)) ?_ ?_ (fun t ht => rm 57 0 t (by omega))
  · rw [ra 5 _ _ (by omega), ra 5 _ _ (by omega), ra 5 _ _ (by omega), rm 40 _ _ (by omega), rm 40 _ _ (by omega), rm 40 _ _ (by omega)]; exact f1
  · rw [ra 7 _ _ (by omega), rm 48 _ _ (by omega)]; exact f2 z z0 z1
  · rw [ra 17 _ _ (by omega), ra 17 _ _ (by omega), ra 17 _ _ (by omega), ra 17 _ _ (by omega), rm 49 _ _ (by omega), rm 50 _ _ (by omega), rm 51 _ _ (by omega), rm 52 _ _ (by omega)]; exact f3 z z0 z1
  · rw [rm 40 _ _ (by omega)] at q1
    obtain ⟨kk1, kk2⟩ := f4 t q0 q1
    by_cases e : t = t0
    · subst e
      obtain ⟨g1, g2, g3, g4, g5, g6, g7, g8, g9⟩ := kk1
      refine ⟨⟨ea _ g1, ?_⟩, ?_⟩
      · rw [ra 18 _ 10 (by omega), ra 18 _ 0 (by omega), ra 18 _ 8 (by omega), ra 18 _ 9 (by omega), ra 18 _ 11 (by omega), an.1, an.2.1, an.2.2.1, an.2.2.2, mn.1, mn.2.1, mn.2.2, rm 54 _ _ (by omega), rm 49 _ _ (by omega), rm 51 _ _ (by omega), rm 62 _ _ (by omega)]
        exact ⟨g2, g3, g4, g5, g6, g7, by omega, fun _ => ⟨rfl, rfl, rfl⟩⟩
      · rw [rm 54 _ _ (by omega), rm 40 _ _ (by omega)]; exact kk2
    · refine ⟨tgR_of kk1 (fun j => ra 18 _ _ (by omega)) (fun k9 z0 z1 => rm k9 _ _ (by omega)) (fun k9 hk => rm k9 _ _ (by omega)), ?_⟩
      rw [rm 54 _ _ (by omega), rm 40 _ _ (by omega)]; exact kk2
  · rw [rm 40 _ _ (by omega)] at q1
    exact alR_of (f5 i q0 q1) (fun j => ra 19 _ _ (by omega)) (fun k9 z0 z1 => rm k9 _ _ (by omega)) (fun k9 z0 z1 => rm k9 _ _ (by omega))
  · rw [ra 19 _ _ (by omega), ra 19 _ _ (by omega), ra 19 _ _ (by omega), ra 19 _ _ (by omega), rm 59 _ _ (by omega), rm 60 _ _ (by omega), rm 61 _ _ (by omega)]; exact f6 i q0 q1
  · rw [rm 40 _ _ (by omega)] at q0
    rw [ra 18 _ _ (by omega)]; exact f7 t q0 q1
  · obtain ⟨j1, j2, j3, j4, j5, j6⟩ := hI
    refine ⟨fun t t0 t1 => ?_, fun t t0 t1 => ?_, fun z z0 z1 => ?_, ?_, ?_, ?_⟩
    · unfold tOK
      rw [ra 18 _ 0 (by omega), ra 18 _ 3 (by omega), ra 18 _ 4 (by omega), ra 18 _ 9 (by omega), ra 18 _ 10 (by omega)]; exact j1 t t0 t1
    · unfold aOK
      rw [ra 19 _ _ (by omega), ra 19 _ _ (by omega), ra 19 _ _ (by omega)]; exact j2 t t0 t1
    · rw [ra 17 _ _ (by omega)]; exact j3 z z0 z1
    · rw [ra 5 _ _ (by omega)]; exact j4
    · rw [ra 5 _ _ (by omega)]; exact j5
    · rw [ra 5 _ _ (by omega)]; exact j6
  · rw [rm 40 _ _ (by omega)]; exact Int.le_refl _
  · rw [rm 40 _ _ (by omega)]; exact Int.le_refl _
