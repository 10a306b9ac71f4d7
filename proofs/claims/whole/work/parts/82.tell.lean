/-! ===== class and model side by side, XXI: alerts are told ===== -/
theorem tell_alert {a m : Mm} (h : FU a m) {g b c d e f n u v : Int} (g0 : 0 ≤ g) (g1 : g < 4) (f0' : 0 ≤ f) (f1' : f < 3) (n0 : 0 ≤ n) (n1 : n < 30) (u0 : 0 ≤ u) (u1 : u < 24) (v0 : 0 ≤ v) (v1 : v < 24) (b0 : 1 ≤ b) (b1 : b ≤ 9) (c0' : 0 ≤ c) (c1 : c ≤ 359) (d0 : -90 ≤ d) (d1 : d ≤ 90) (e0 : 1 ≤ e) (e1 : e ≤ 6) (hc : rd m 40 0 30 < 10) : FU (alC a g b c d e f n u v) (altF g b c d e f n u v m) := by
  have hI := h.2.2.2.2.2.2.2.1
  obtain ⟨hS, ⟨f1, f2, f3, f4, f5, f6, f7⟩, hM⟩ := h.1
  have c0 : 0 ≤ rd m 40 0 30 := hM.2.2.1.1
  have hT : rd m 40 0 25 ≤ 24 := hM.2.1.2
  have e8 : rd a 5 0 8 = rd m 40 0 30 := f1.2.2
  have ra : ∀ (k : Nat) (i' j : Int), ¬ (k = 5 ∧ j = 8) → ¬ (k = 19 ∧ i' = rd m 40 0 30) → rd (alC a g b c d e f n u v) k i' j = rd a k i' j := fun k i' j hk hk2 => by
    unfold alC aimC
    rw [e8, rd_stx hk2, rd_stx hk2, rd_stx hk2, rd_stx hk2, rd_stx hk2, rd_stx hk2, rd_stx hk2, rd_stx hk2, rd_st, if_neg (by omega)]
  have a8 : rd (alC a g b c d e f n u v) 5 0 8 = rd m 40 0 30 + 1 := by
    unfold alC aimC
    rw [e8]
    simp [rd_st, wr_wr]
    exact wr_of (by omega) (by omega)
  have an : rd (alC a g b c d e f n u v) 19 (rd m 40 0 30) 0 = g ∧ rd (alC a g b c d e f n u v) 19 (rd m 40 0 30) 1 = c ∧ rd (alC a g b c d e f n u v) 19 (rd m 40 0 30) 2 = d ∧ rd (alC a g b c d e f n u v) 19 (rd m 40 0 30) 3 = e ∧ rd (alC a g b c d e f n u v) 19 (rd m 40 0 30) 4 = f ∧ rd (alC a g b c d e f n u v) 19 (rd m 40 0 30) 9 = b ∧ rd (alC a g b c d e f n u v) 19 (rd m 40 0 30) 10 = n * 24 + u ∧ rd (alC a g b c d e f n u v) 19 (rd m 40 0 30) 11 = n * 24 + v := by
    unfold alC aimC
    rw [e8]
    simp [rd_st, wr_wr]
    exact ⟨wr_of (by omega) (by omega), wr_of (by omega) (by omega), wr_of (by omega) (by omega), wr_of (by omega) (by omega), wr_of (by omega) (by omega), wr_of (by omega) (by omega), wr_of (by omega) (by omega), wr_of (by omega) (by omega)⟩
  have ar : ∀ j, 5 ≤ j → j ≤ 8 → rd (alC a g b c d e f n u v) 19 (rd m 40 0 30) j = rd a 19 (rd m 40 0 30) j := fun j j0 j1 => by
    unfold alC aimC
    rw [e8, rd_st, if_neg (by omega), rd_st, if_neg (by omega), rd_st, if_neg (by omega), rd_st, if_neg (by omega), rd_st, if_neg (by omega), rd_st, if_neg (by omega), rd_st, if_neg (by omega), rd_st, if_neg (by omega), rd_st, if_neg (by omega)]
  have rm : ∀ (k : Nat) (i' j : Int), ¬ (k = 40 ∧ j = 30) → ¬ (54 ≤ k ∧ k ≤ 58 ∧ j = 24 + rd m 40 0 30) → ¬ (67 ≤ k ∧ k ≤ 70 ∧ j = rd m 40 0 30) → rd (altF g b c d e f n u v m) k i' j = rd m k i' j := fun k i' j hk hk2 hk3 => by
    unfold altF layC
    rw [rd_st, if_neg (by omega), rd_st, if_neg (by omega), rd_st, if_neg (by omega), rd_st, if_neg (by omega), rd_st, if_neg (by omega), rd_st, if_neg (by omega), rd_st, if_neg (by omega), rd_st, if_neg (by omega), rd_st, if_neg (by omega), rd_st, if_neg (by omega)]
  have m30 : rd (altF g b c d e f n u v m) 40 0 30 = rd m 40 0 30 + 1 := by
    unfold altF
    rw [rd_st, if_pos ⟨rfl, rfl, rfl⟩, wr_wr, wr_of (by omega) (by omega)]
  have mn : rd (altF g b c d e f n u v m) 54 0 (24 + rd m 40 0 30) = g ∧ rd (altF g b c d e f n u v m) 55 0 (24 + rd m 40 0 30) = c ∧ rd (altF g b c d e f n u v m) 56 0 (24 + rd m 40 0 30) = d ∧ rd (altF g b c d e f n u v m) 57 0 (24 + rd m 40 0 30) = e ∧ rd (altF g b c d e f n u v m) 58 0 (24 + rd m 40 0 30) = f ∧ rd (altF g b c d e f n u v m) 67 0 (rd m 40 0 30) = b ∧ rd (altF g b c d e f n u v m) 68 0 (rd m 40 0 30) = n ∧ rd (altF g b c d e f n u v m) 69 0 (rd m 40 0 30) = u ∧ rd (altF g b c d e f n u v m) 70 0 (rd m 40 0 30) = v := by
    unfold altF layC
    simp [rd_st, wr_wr]
    exact ⟨wr_of (by omega) (by omega), wr_of (by omega) (by omega), wr_of (by omega) (by omega), wr_of (by omega) (by omega), wr_of (by omega) (by omega), wr_of (by omega) (by omega), wr_of (by omega) (by omega), wr_of (by omega) (by omega), wr_of (by omega) (by omega)⟩
  obtain ⟨an0, an1, an2, an3, an4, an9, an10, an11⟩ := an
  obtain ⟨mn54, mn55, mn56, mn57, mn58, mn67, mn68, mn69, mn70⟩ := mn
  have hM' : IM (altF g b c d e f n u v m) := by
    obtain ⟨j1, j2, j3, j4, j5, j6, j7⟩ := hM
    refine ⟨?_, ?_, ?_, fun t t0 t1 => ?_, fun t t0 t1 => ?_, fun z z0 z1 => ?_, fun t t0 t1 => ?_⟩
    · rw [rm 40 _ _ (by omega) (by omega) (by omega)]; exact j1
    · rw [rm 40 _ _ (by omega) (by omega) (by omega)]; exact j2
    · rw [m30]; omega
    · by_cases q : t = 24 + rd m 40 0 30
      · rw [q, mn54, mn57, mn58]; omega
      · rw [rm 54 _ _ (by omega) (by omega) (by omega), rm 57 _ _ (by omega) (by omega) (by omega), rm 58 _ _ (by omega) (by omega) (by omega)]; exact j4 t t0 t1
    · by_cases q : t = 24 + rd m 40 0 30
      · rw [q, mn54]; exact g1
      · rw [rm 54 _ _ (by omega) (by omega) (by omega)]; exact j5 t t0 t1
    · rw [rm 49 _ _ (by omega) (by omega) (by omega)]; exact j6 z z0 z1
    · rw [rm 62 _ _ (by omega) (by omega) (by omega)]; exact j7 t t0 t1
  refine FU_tell h ⟨SK_of hS (fun k i j hk => ra k i j (by omega) (by omega)) (fun k j hk => rm k 0 j (by omega) (by omega) (by omega)), ⟨?_, fun z z0 z1 => ?_, fun z z0 z1 => ?_, fun t q0 q1 => ?_, fun i q0 q1 => ?_, fun i q0 q1 => ?_, fun t q0 q1 => ?_⟩, hM'⟩ ?_ (fun k i j hk => ra k i j (by omega) (by omega)) (fun k i j hk => rm k i j (by omega) (by omega) (by omega)) ?_ ?_ (fun t ht => rm 57 0 t (by omega) (by omega) (by omega))
  · rw [a8, m30, ra 5 _ _ (by omega) (by omega), ra 5 _ _ (by omega) (by omega), rm 40 _ _ (by omega) (by omega) (by omega), rm 40 _ _ (by omega) (by omega) (by omega)]; exact ⟨f1.1, f1.2.1, rfl⟩
  · rw [ra 7 _ _ (by omega) (by omega), rm 48 _ _ (by omega) (by omega) (by omega)]; exact f2 z z0 z1
  · rw [ra 17 _ _ (by omega) (by omega), ra 17 _ _ (by omega) (by omega), ra 17 _ _ (by omega) (by omega), ra 17 _ _ (by omega) (by omega), rm 49 _ _ (by omega) (by omega) (by omega), rm 50 _ _ (by omega) (by omega) (by omega), rm 51 _ _ (by omega) (by omega) (by omega), rm 52 _ _ (by omega) (by omega) (by omega)]; exact f3 z z0 z1
  · rw [rm 40 _ _ (by omega) (by omega) (by omega)] at q1
    obtain ⟨k1, k2⟩ := f4 t q0 q1
    refine ⟨tgR_of k1 (fun j => ra 18 _ _ (by omega) (by omega)) (fun k9 z0 z1 => rm k9 _ _ (by omega) (by omega) (by omega)) (fun k9 hk => rm k9 _ _ (by omega) (by omega) (by omega)), ?_⟩
    rw [rm 54 _ _ (by omega) (by omega) (by omega), rm 40 _ _ (by omega) (by omega) (by omega)]; exact k2
  · rw [m30] at q1
    by_cases q : i = rd m 40 0 30
    · subst q
      obtain ⟨h5, h6, h7, h8⟩ := f6 _ c0 hc
      refine ⟨?_, ?_⟩
      · unfold aimR
        rw [an1, an2, an3, an4, ar 5 (by decide) (by decide), ar 6 (by decide) (by decide), ar 7 (by decide) (by decide), mn55, mn56, mn57, mn58, rm 59 _ _ (by omega) (by omega) (by omega), rm 60 _ _ (by omega) (by omega) (by omega), rm 61 _ _ (by omega) (by omega) (by omega)]
        exact ⟨rfl, rfl, rfl, rfl, h5, h6, h7, ⟨f0', f1'⟩, e0, e1⟩
      · rw [an0, an9, an10, an11, mn54, mn67, mn68, mn69, mn70]
        exact ⟨rfl, rfl, b0, by omega, by omega, ⟨n0, n1⟩, ⟨u0, u1⟩, v0, v1⟩
    · exact alR_of (f5 i q0 (by omega)) (fun j => ra 19 _ _ (by omega) (by omega)) (fun k9 z0 z1 => rm k9 _ _ (by omega) (by omega) (by omega)) (fun k9 z0 z1 => rm k9 _ _ (by omega) (by omega) (by omega))
  · by_cases q : i = rd m 40 0 30
    · subst q
      rw [ar 5 (by decide) (by decide), ar 6 (by decide) (by decide), ar 7 (by decide) (by decide), ar 8 (by decide) (by decide), rm 59 _ _ (by omega) (by omega) (by omega), rm 60 _ _ (by omega) (by omega) (by omega), rm 61 _ _ (by omega) (by omega) (by omega)]
      exact f6 _ q0 q1
    · rw [ra 19 _ _ (by omega) (by omega), ra 19 _ _ (by omega) (by omega), ra 19 _ _ (by omega) (by omega), ra 19 _ _ (by omega) (by omega), rm 59 _ _ (by omega) (by omega) (by omega), rm 60 _ _ (by omega) (by omega) (by omega), rm 61 _ _ (by omega) (by omega) (by omega)]; exact f6 i q0 q1
  · rw [rm 40 _ _ (by omega) (by omega) (by omega)] at q0
    rw [ra 18 _ _ (by omega) (by omega)]; exact f7 t q0 q1
  · obtain ⟨j1, j2, j3, j4, j5, j6⟩ := hI
    refine ⟨fun t t0 t1 => ?_, fun t t0 t1 => ?_, fun z z0 z1 => ?_, ?_, ?_, ?_⟩
    · unfold tOK
      rw [ra 18 _ _ (by omega) (by omega), ra 18 _ _ (by omega) (by omega), ra 18 _ _ (by omega) (by omega), ra 18 _ _ (by omega) (by omega), ra 18 _ _ (by omega) (by omega)]; exact j1 t t0 t1
    · unfold aOK
      by_cases q : t = rd m 40 0 30
      · rw [q, an0, an3, an4]; omega
      · rw [ra 19 _ _ (by omega) (by omega), ra 19 _ _ (by omega) (by omega), ra 19 _ _ (by omega) (by omega)]; exact j2 t t0 t1
    · rw [ra 17 _ _ (by omega) (by omega)]; exact j3 z z0 z1
    · rw [ra 5 _ _ (by omega) (by omega)]; exact j4
    · rw [ra 5 _ _ (by omega) (by omega)]; exact j5
    · rw [a8]; omega
  · rw [rm 40 _ _ (by omega) (by omega) (by omega)]; exact Int.le_refl _
  · rw [m30]; omega
