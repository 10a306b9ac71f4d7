/-! ===== class and model side by side, XI: a site's slot ===== -/
theorem msn_wr (m : Mm) (s n u : Int) : wr (msnC m s n u) = msnC m s n u := by
  unfold msnC
  by_cases q : rd m 45 0 (720 * s + 24 * n + u) = 1
  · rw [pif_t q]; rfl
  · rw [pif_f q]; exact wr_rd _ _ _ _
theorem zR_obs {a m a' m' : Mm} {x v s : Int} (h : zR a m x) (ra : ∀ (k : Nat) (i j : Int), ¬ (k = 31 ∧ i = v) → rd a' k i j = rd a k i j) (rm : ∀ (k : Nat) (i j : Int), k ≠ 81 ∧ k ≠ 82 → rd m' k i j = rd m k i j) : zR a' m' x :=
  zR_of h (fun k j hk => ra k _ j (by omega)) (ra 26 _ 9 (by omega)) (fun k j hk => rm k _ j (by omega))
theorem obs_step {a m : Mm} {x s n u : Int} (hP : PR a m) (hx : x = 0 ∨ x = 1) (hC : CRv 0 s a m x) (hw : rd a 26 x 8 = 24 * n + u) (s0 : 0 ≤ s) (s1 : s < 3) (n0 : 0 ≤ n) (n1 : n < 30) (u0 : 0 ≤ u) (u1 : u < 24) : CR (st4 a x s) (siE m s n u) x := by
  have hidle : rd a 31 (27 * x + s) 0 = 0 ↔ rd m 80 0 s < 0 := (lose_g hP hC.2.2.1).1.symm
  have hT : rd m 40 0 25 ≤ 24 := hP.2.2.2.1.2
  obtain ⟨h1, h2, h3, h4, h5, h6⟩ := hC
  unfold st4 siE
  rcases Int.lt_or_le (rd m 80 0 s) 0 with q | q
  · rw [pif_t (hidle.mpr q), pif_t q]
    have ra : ∀ (k : Nat) (i j : Int), k ≠ 34 → rd (st a 34 x s (wr (rd a 34 x s + 1))) k i j = rd a k i j := fun k i j hk => rd_st_ne hk
    have rm : ∀ (k : Nat) (i j : Int), k ≠ 79 → rd (st m 79 0 s (wr (rd m 79 0 s + 1))) k i j = rd m k i j := fun k i j hk => rd_st_ne hk
    refine ⟨bkR_of h1 (fun k j k0 k1 => ra k _ j (by omega)) (fun k j k0 k1 => rm k _ j (by omega)), fun s' g0 g1 => ?_, fun t t0 t1 => ?_, dsR_of h5 (fun s' => rm 80 0 s' (by decide)), ?_⟩
    · have hv : vR 1 a m x s' := by
        by_cases e : s' = s
        · subst e
          rcases h3 with h3 | ⟨h3, -⟩ | ⟨h3, -⟩
          · exact Or.inl h3
          · omega
          · omega
        · exact h2 s' g0 g1 e
      exact vR_of hv (fun j _ _ => ra 31 _ j (by decide)) (rm 80 0 _ (by decide)) (rm 81 0 _ (by decide)) (rm 82 0 _ (by decide)) (fun t => rm 57 0 t (by decide)) (fun _ g => by rw [rm 75 0 _ (by decide)]; exact g) (rm 40 0 25 (by decide)) (rm 40 0 30 (by decide))
    · exact wR_of (h4 t t0 t1) (fun j => ra 31 _ j (by decide)) (rm 83 0 t (by decide)) (rm 84 0 t (by decide)) (rm 85 0 t (by decide)) (rm 57 0 t (by decide)) (rm 40 0 25 (by decide))
    · refine zR_of2 h6 (fun k j hk => ra k _ j (by omega)) (ra 26 _ 9 (by decide)) (fun k j hk => rm k _ j (by omega)) (fun _ ho g g0 g1 => ?_) (fun hx0 ho s' g0 g1 => ?_)
      · rw [ra 32 _ _ (by decide), rm 77 _ _ (by decide)]; exact ho g g0 g1
      · subst hx0
        rw [ra 33 _ _ (by decide), rm 78 _ _ (by decide), rd_st, rd_st]
        refine ⟨(ho s' g0 g1).1, ?_⟩
        by_cases e : s' = s
        · rw [if_pos ⟨rfl, rfl, e⟩, if_pos ⟨rfl, rfl, e⟩, (ho s s0 s1).2]
        · rw [if_neg (fun c => e c.2.2), if_neg (fun c => e c.2.2)]; exact (ho s' g0 g1).2
  · rw [pif_f (fun c => by have := hidle.mp c; omega), pif_f (by omega)]
    obtain ⟨w, hvw⟩ : ∃ w, rd m 80 0 s = w := ⟨_, rfl⟩
    have hv : ((rd a 31 (27 * x + s) 0 = 1 ∧ 0 ≤ w ∧ w < rd m 40 0 25 ∧ rd a 31 (27 * x + s) 1 = w) ∨ (rd a 31 (27 * x + s) 0 = 2 ∧ 24 ≤ w ∧ w < 24 + rd m 40 0 30 ∧ rd a 31 (27 * x + s) 1 = w - 24)) ∧ rd a 31 (27 * x + s) 2 = rd m 81 0 s ∧ rd a 31 (27 * x + s) 3 = rd m 82 0 s ∧ 0 ≤ rd m 81 0 s ∧ rd m 81 0 s < rd m 57 0 w ∧ (24 ≤ w → rd m 75 0 (w - 24) < 0) := by
      rcases h3 with ⟨g1, g2⟩ | ⟨g1, g2, g3, g4, g5, g6⟩ | ⟨g1, g2, g3, g4, g5, g6, g7⟩
      · omega
      · rw [hvw] at g1 g3 g6
        exact ⟨Or.inl ⟨g2, g1.1, g1.2, g3⟩, g4, g5, g6.1, g6.2, fun c => by omega⟩
      · rw [hvw] at g1 g3 g6 g7
        exact ⟨Or.inr ⟨g2, g1.1, g1.2, g3⟩, g4, g5, g6.1, g6.2, fun _ => g7⟩
    obtain ⟨hv, h82, h83, v0, v1, v75⟩ := hv
    have hI := hP.2.2
    have hA : rd m 40 0 30 ≤ 10 := hI.2.2.1.2
    have w0 : 0 ≤ w := by rcases hv with h | h <;> omega
    have w1 : w < 34 := by rcases hv with h | h <;> omega
    obtain ⟨-, ⟨-, l6⟩, -⟩ := hI.2.2.2.1 w w0 w1
    have A3 : aimF a (27 * x + s) 3 = rd m 57 0 w := by
      unfold aimF
      rcases hv with ⟨k, _, c, e⟩ | ⟨k, b, c, e⟩
      · rw [pif_t k, e]; exact (hP.2.1.2.2.2.1 w w0 c).1.1.2.2.1
      · rw [pif_f (by omega), e]
        have := (hP.2.1.2.2.2.2.1 (w - 24) (by omega) (by omega)).1.2.2.1
        rwa [show 24 + (w - 24) = w by omega] at this
    obtain ⟨a1, ha1⟩ : ∃ a1, ob2 (ob1 a (27 * x + s)) x (27 * x + s) s = a1 := ⟨_, rfl⟩
    obtain ⟨m1, hm1⟩ : ∃ m1, si2 (si1 m s) s n u = m1 := ⟨_, rfl⟩
    have ra : ∀ (k : Nat) (i j : Int), ¬ (k = 31 ∧ i = 27 * x + s ∧ (j = 2 ∨ j = 3)) → rd a1 k i j = rd a k i j := fun k i j hk => by rw [← ha1]; exact rd_ob _ _ _ _ _ _ _ hk
    have rm : ∀ (k : Nat) (i j : Int), k ≠ 81 ∧ k ≠ 82 → rd m1 k i j = rd m k i j := fun k i j hk => by rw [← hm1]; unfold si2 si1; rw [rd_st_ne hk.2, rd_st_ne hk.1]
    have rmo : ∀ (k : Nat) s', s' ≠ s → rd m1 k 0 s' = rd m k 0 s' := fun k s' hs => by rw [← hm1]; unfold si2 si1; rw [rd_st, if_neg (fun c => hs c.2.2), rd_st, if_neg (fun c => hs c.2.2)]
    have a2 : rd a1 31 (27 * x + s) 2 = rd m 81 0 s + 1 := by rw [← ha1, rd_ob2, h82, wr_of (by omega) (by omega)]
    have m81 : rd m1 81 0 s = rd m 81 0 s + 1 := by
      rw [← hm1]
      unfold si2
      rw [rd_st_ne (by decide)]
      unfold si1
      rw [rd_st, if_pos ⟨rfl, rfl, rfl⟩, wr_wr, wr_of (by omega) (by omega)]
    have ms : msnC (si1 m s) s n u = msnC m s n u := by unfold msnC si1; rw [rd_st_ne (by decide), rd_st_ne (by decide)]
    have m82 : rd m1 82 0 s = pif (msnC m s n u ≤ rd m 82 0 s) (rd m 82 0 s) (msnC m s n u) := by
      rw [← hm1]
      unfold si2
      rw [rd_st, if_pos ⟨rfl, rfl, rfl⟩, wr_wr, ms]
      unfold si1
      rw [rd_st_ne (by decide)]
      by_cases c : msnC m s n u ≤ rd m 82 0 s
      · rw [pif_t c, wr_rd]
      · rw [pif_f c, msn_wr]
    have a3 : rd a1 31 (27 * x + s) 3 = rd m1 82 0 s := by
      rw [m82, ← ha1]
      have e26 : rd (ob1 a (27 * x + s)) 26 x 8 = 24 * n + u := by unfold ob1; rw [rd_st_ne (by decide)]; exact hw
      have e3 : rd (ob1 a (27 * x + s)) 31 (27 * x + s) 3 = rd m 82 0 s := by unfold ob1; rw [rd_st, if_neg (by omega)]; exact h83
      have es : seenC (ob1 a (27 * x + s)) s (24 * n + u) = msnC m s n u := by
        rw [← (sk_seen hP.1 s0 s1 n0 n1 u0 u1).1]
        unfold seenC ob1
        rw [rd_st_ne (by decide), rd_st_ne (by decide)]
      unfold ob2
      rw [rd_st, if_pos ⟨rfl, rfl, rfl⟩, wr_wr, e26, e3, es]
      unfold jmax
      rw [msn_wr, wr_rd]
      by_cases c : msnC m s n u ≤ rd m 82 0 s
      · rw [if_neg (by omega), pif_t c, wr_rd]
      · rw [if_pos (by omega), pif_f c, msn_wr]
    have hP1 : PR a1 m1 := PR_of hP (fun k i j hk => ra k i j (by omega)) (fun k i j hk => rm k i j (by omega))
    have b1 : bkR a1 m1 (30 + x) := bkR_of h1 (fun k j k0 k1 => ra k _ j (by omega)) (fun k j k0 k1 => rm k _ j (by omega))
    have b2 : ∀ s', 0 ≤ s' → s' < 3 → ¬ s' = s → vR 1 a1 m1 x s' := fun s' g0 g1 hs => vR_of (h2 s' g0 g1 hs) (fun j _ _ => ra 31 _ j (by omega)) (rmo 80 s' hs) (rmo 81 s' hs) (rmo 82 s' hs) (fun t => rm 57 0 t (by decide)) (fun _ g => by rw [rm 75 0 _ (by decide)]; exact g) (rm 40 0 25 (by decide)) (rm 40 0 30 (by decide))
    have b4 : ∀ t, 0 ≤ t → t < 24 → wR a1 m1 x t := fun t t0 t1 => wR_of (h4 t t0 t1) (fun j => ra 31 _ j (by omega)) (rm 83 0 t (by decide)) (rm 84 0 t (by decide)) (rm 85 0 t (by decide)) (rm 57 0 t (by decide)) (rm 40 0 25 (by decide))
    have b5 : dsR m1 := dsR_of h5 (fun s' => rm 80 0 s' (by decide))
    have b6 : zR a1 m1 x := zR_obs (v := 27 * x + s) (s := s) h6 (fun k i j hk => ra k i j (by omega)) rm
    have w81 : rd m1 80 0 s = w := by rw [rm 80 0 s (by decide)]; exact hvw
    have k01 : rd a1 31 (27 * x + s) 0 = rd a 31 (27 * x + s) 0 ∧ rd a1 31 (27 * x + s) 1 = rd a 31 (27 * x + s) 1 := ⟨ra 31 _ 0 (by omega), ra 31 _ 1 (by omega)⟩
    have c25 : rd m1 40 0 25 = rd m 40 0 25 := rm 40 0 25 (by decide)
    have c30 : rd m1 40 0 30 = rd m 40 0 30 := rm 40 0 30 (by decide)
    have c57 : rd m1 57 0 w = rd m 57 0 w := rm 57 0 w (by decide)
    unfold obsvC si3
    rw [ha1, hm1]
    have A31 : aimF a1 (27 * x + s) 3 = rd m 57 0 w := by rw [← ha1, aimF_ob]; exact A3
    rw [a2, A31, m81, w81, c57]
    by_cases c : rd m 81 0 s + 1 < rd m 57 0 w
    · rw [pif_t c, pif_f (by omega)]
      refine ⟨b1, fun s' g0 g1 => ?_, b4, b5, b6⟩
      by_cases e : s' = s
      · subst e
        right
        rw [w81, a2, a3, m81, c57, c25, c30, k01.1, k01.2]
        rcases hv with ⟨g1, g2, g3, g4⟩ | ⟨g1, g2, g3, g4⟩
        · exact Or.inl ⟨⟨g2, g3⟩, g1, g4, rfl, rfl, by omega, c⟩
        · exact Or.inr ⟨⟨g2, g3⟩, g1, g4, rfl, rfl, ⟨by omega, c⟩, by rw [rm 75 0 _ (by decide)]; exact v75 g2⟩
      · exact b2 s' g0 g1 e
    · rw [pif_f c, pif_t (by omega)]
      refine finish_step hP1 hx b1 b2 b4 b5 b6 ((ra 26 _ 8 (by omega)).trans hw) s0 s1 n0 n1 u0 u1 w81 ?_ ?_ a3
      · rw [k01.1, k01.2, c25, c30]; exact hv
      · rw [a2, c57]; omega
theorem rd_siB (m : Mm) (s n u : Int) (k : Nat) (i j : Int) (h : k ≠ 80 ∧ k ≠ 81 ∧ k ≠ 82 ∧ k ≠ 83) : rd (siB m s n u) k i j = rd m k i j := by
  unfold siB
  by_cases q : rd m 80 0 s < 0
  · rw [pif_t q]; exact rd_rsm _ _ _ _ _ _ _ h
  · rw [pif_f q]
theorem rd_siD (m : Mm) (s n u : Int) (k : Nat) (i j : Int) (h : k ≠ 80 ∧ k ≠ 81 ∧ k ≠ 82) : rd (siD m s n u) k i j = rd m k i j := by
  unfold siD
  by_cases q : rd m 80 0 s < 0
  · rw [pif_t q]; exact rd_chs _ _ _ _ _ _ _ h
  · rw [pif_f q]
theorem site_step {a m : Mm} {x s n u : Int} (hP : PR a m) (hx : x = 0 ∨ x = 1) (hC : CR a m x) (hw : rd a 26 x 8 = 24 * n + u) (s0 : 0 ≤ s) (s1 : s < 3) (n0 : 0 ≤ n) (n1 : n < 30) (u0 : 0 ≤ u) (u1 : u < 24) : CR (siteC a x s) (siM m s n u) x ∧ PR (siteC a x s) (siM m s n u) ∧ rd (siteC a x s) 26 x 8 = 24 * n + u := by
  refine ⟨?_, PR_of hP (fun k i j hk => rd_site _ _ _ _ _ _ (lv20 hk)) (fun k i j hk => rd_siM _ _ _ _ _ _ _ (by unfold sK; omega)), (rd_site _ _ _ _ _ _ lv268).trans hw⟩
  unfold siteC siM
  rw [hw, (sk_seen hP.1 s0 s1 n0 n1 u0 u1).1]
  by_cases q : msnC m s n u = 0
  · rw [pif_t q, pif_t q]; exact close_step hP hC hw s0 s1 n0 n1 u0 u1
  · rw [pif_f q, pif_f q]
    have c1 := alarm_step hP (CR_v hC s0 s1 (by decide)) hw s0 s1 n0 n1 u0 u1
    have p1 : PR (alertC a x (27 * x + s) s) (almC m s n u) := PR_of hP (fun k i j hk => rd_alert _ _ _ _ _ _ _ (by omega) (by omega)) (fun k i j hk => rd_alm _ _ _ _ _ _ _ (by omega))
    have w1 : rd (alertC a x (27 * x + s) s) 26 x 8 = 24 * n + u := (rd_alert _ _ _ _ _ _ _ (by omega) (by omega)).trans hw
    have c2 := resume_step p1 c1 w1 s0 s1 n0 n1 u0 u1
    have p2 : PR (st2 (alertC a x (27 * x + s) s) x s) (siB (almC m s n u) s n u) := PR_of p1 (fun k i j hk => rd_st2 _ _ _ _ _ _ (by omega)) (fun k i j hk => rd_siB _ _ _ _ _ _ _ (by omega))
    have w2 : rd (st2 (alertC a x (27 * x + s) s) x s) 26 x 8 = 24 * n + u := (rd_st2 _ _ _ _ _ _ (by omega)).trans w1
    have c3 := choose_step p2 c2 w2 s0 s1 n0 n1 u0 u1
    have p3 : PR (st3 (st2 (alertC a x (27 * x + s) s) x s) x s) (siD (siB (almC m s n u) s n u) s n u) := PR_of p2 (fun k i j hk => rd_st3 _ _ _ _ _ _ (by omega)) (fun k i j hk => rd_siD _ _ _ _ _ _ _ (by omega))
    have w3 : rd (st3 (st2 (alertC a x (27 * x + s) s) x s) x s) 26 x 8 = 24 * n + u := (rd_st3 _ _ _ _ _ _ (by omega)).trans w2
    exact obs_step p3 hx c3 w3 s0 s1 n0 n1 u0 u1
