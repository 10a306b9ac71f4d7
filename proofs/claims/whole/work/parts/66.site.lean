/-! ===== class and model side by side, VI: a closed site; visits taken up again ===== -/
theorem rd_takeW1 (mm : Mm) (v w : Int) : rd (takeC mm v w) 31 w 1 = -1 := by unfold takeC; rw [rd_begin1]; rfl
theorem rd_takeW2 (mm : Mm) (v w : Int) : rd (takeC mm v w) 31 w 2 = 0 := by unfold takeC; rw [rd_begin2]
theorem brk_lose {a : Mm} {x v : Int} (h : ¬ rd a 31 v 0 = 1) : breakC a x v = loseC a x v := by unfold breakC; rw [pif_f h]
/-- the model's visit of a site goes -/
theorem rd_mcl80 (m : Mm) (s z : Int) : rd (mclC m s z) 80 0 s = -1 := by unfold mclC; rw [rd_st, if_pos ⟨rfl, rfl, rfl⟩]; rfl
theorem rd_mcl80o (m : Mm) (s z s' : Int) (h : s' ≠ s) : rd (mclC m s z) 80 0 s' = rd m 80 0 s' := by
  unfold mclC
  rw [rd_st, if_neg (fun c => h c.2.2)]
  by_cases q : 23 < rd m 80 0 s
  · rw [pif_t q]; exact rd_mls _ _ _ _ _ _ (by decide)
  · rw [pif_f q]
    by_cases q2 : 0 ≤ rd m 80 0 s
    · rw [pif_t q2, rd_st_ne (by decide)]
      unfold cl2 cl1
      rw [rd_st_ne (by decide), rd_st_ne (by decide)]
    · rw [pif_f q2]
theorem dsR_end {m m' : Mm} {s : Int} (h : dsR m) (h1 : rd m' 80 0 s < 24) (h2 : ∀ s', s' ≠ s → rd m' 80 0 s' = rd m 80 0 s') : dsR m' := by
  intro z z' z0 z1 z2 z3 hne hz
  by_cases e : z = s
  · rw [e] at hz; omega
  · rw [h2 z e] at hz ⊢
    by_cases e2 : z' = s
    · rw [e2]; omega
    · rw [h2 z' e2]; exact h z z' z0 z1 z2 z3 hne hz
theorem close_step {a m : Mm} {x s n u : Int} (hP : PR a m) (hC : CR a m x) (hw : rd a 26 x 8 = 24 * n + u) (s0 : 0 ≤ s) (s1 : s < 3) (n0 : 0 ≤ n) (n1 : n < 30) (u0 : 0 ≤ u) (u1 : u < 24) : CR (stB a x s) (siF (mclC m s (24 * n + u)) s) x := by
  obtain ⟨h1, h2, h4, h5, h6⟩ := hC
  have hI := hP.2.2
  have hT : rd m 40 0 25 ≤ 24 := hI.2.1.2
  have hv := h2 s s0 s1
  have ra : ∀ (k : Nat) (i j : Int), k ≠ 31 → k ≠ 32 → k ≠ 33 → rd (stB a x s) k i j = rd a k i j := fun k i j k1 k2 k3 => by unfold stB; rw [rd_st_ne k3]; exact rd_break _ _ _ _ _ _ k1 k2
  have rm : ∀ (k : Nat) (i j : Int), k ≠ 77 ∧ k ≠ 78 ∧ k ≠ 80 ∧ k ≠ 83 ∧ k ≠ 84 ∧ k ≠ 85 → rd (siF (mclC m s (24 * n + u)) s) k i j = rd m k i j := fun k i j hk => by unfold siF; rw [rd_st_ne (by omega)]; exact rd_mcl _ _ _ _ _ _ (by omega)
  have f0 : rd (siF (mclC m s (24 * n + u)) s) 80 0 s = -1 := by unfold siF; rw [rd_st_ne (by decide)]; exact rd_mcl80 _ _ _
  have fo : ∀ s', s' ≠ s → rd (siF (mclC m s (24 * n + u)) s) 80 0 s' = rd m 80 0 s' := fun s' hs => by unfold siF; rw [rd_st_ne (by decide)]; exact rd_mcl80o _ _ _ _ hs
  have e31 : ∀ i j, rd (stB a x s) 31 i j = rd (breakC a x (27 * x + s)) 31 i j := fun i j => by unfold stB; exact rd_st_ne (by decide)
  have e83 : ∀ (k : Nat) t, 83 ≤ k → rd (siF (mclC m s (24 * n + u)) s) k 0 t = rd (mclC m s (24 * n + u)) k 0 t := fun k t hk => by unfold siF; exact rd_st_ne (by omega)
  -- the visits of the class and of the model behind it
  have key : (rd (breakC a x (27 * x + s)) 31 (27 * x + s) 0 = 0 ∧ rd (breakC a x (27 * x + s)) 31 (27 * x + s) 1 = -1 ∧ rd (breakC a x (27 * x + s)) 31 (27 * x + s) 2 = 0) ∧
      (∀ s', 0 ≤ s' → s' < 3 → s' ≠ s → ∀ j, rd (breakC a x (27 * x + s)) 31 (27 * x + s') j = rd a 31 (27 * x + s') j) ∧
      (∀ t, 0 ≤ t → t < 24 → wR (stB a x s) (siF (mclC m s (24 * n + u)) s) x t) ∧
      (x = 0 → (∀ g, 0 ≤ g → g < 4 → rd a 32 0 g = rd m 77 0 g) → ∀ g, 0 ≤ g → g < 4 → rd (stB a x s) 32 0 g = rd (siF (mclC m s (24 * n + u)) s) 77 0 g) := by
    by_cases q : rd a 31 (27 * x + s) 0 = 1
    · -- a target's visit waits
      obtain ⟨t9, hvw, c1, c2, c3, c4, c5, c6, c7⟩ : ∃ t9, rd m 80 0 s = t9 ∧ 0 ≤ t9 ∧ t9 < rd m 40 0 25 ∧ rd a 31 (27 * x + s) 1 = t9 ∧ rd a 31 (27 * x + s) 2 = rd m 81 0 s ∧ rd a 31 (27 * x + s) 3 = rd m 82 0 s ∧ 1 ≤ rd m 81 0 s ∧ rd m 81 0 s < rd m 57 0 t9 := by
        rcases hv with ⟨g1, g2, g3, g4⟩ | ⟨g1, g2, g3, g4, g5, g6⟩ | ⟨g1, g2, g3, g4, g5, g6⟩
        · omega
        · exact ⟨_, rfl, g1.1, g1.2, g3, g4, g5, g6.1, g6.2⟩
        · omega
      have hb : breakC a x (27 * x + s) = st (takeC a (27 * x + 3 + t9) (27 * x + s)) 31 (27 * x + 3 + t9) 4 (wr (rd (takeC a (27 * x + 3 + t9) (27 * x + s)) 26 x 8)) := by unfold breakC; rw [pif_t q, c3]
      have hne : 27 * x + 3 + t9 ≠ 27 * x + s := by omega
      have hmc : mclC m s (24 * n + u) = st (st (cl2 (cl1 m s t9) s t9) 85 0 t9 (wr (24 * n + u))) 80 0 s (wr (-1)) := by unfold mclC; rw [hvw, pif_f (by omega), pif_t c1]
      have r83 : ∀ t, rd (mclC m s (24 * n + u)) 83 0 t = if t = t9 then rd m 81 0 s else rd m 83 0 t := fun t => by
        rw [hmc, rd_st_ne (by decide), rd_st_ne (by decide)]
        unfold cl2 cl1
        rw [rd_st_ne (by decide), rd_st]
        by_cases e : t = t9
        · rw [if_pos ⟨rfl, rfl, e⟩, if_pos e, wr_wr, wr_rd]
        · rw [if_neg (fun c => e c.2.2), if_neg e]
      have r84 : ∀ t, rd (mclC m s (24 * n + u)) 84 0 t = if t = t9 then rd m 82 0 s else rd m 84 0 t := fun t => by
        rw [hmc, rd_st_ne (by decide), rd_st_ne (by decide)]
        unfold cl2 cl1
        rw [rd_st]
        by_cases e : t = t9
        · rw [if_pos ⟨rfl, rfl, e⟩, if_pos e, wr_wr, rd_st_ne (by decide), wr_rd]
        · rw [if_neg (fun c => e c.2.2), if_neg e, rd_st_ne (by decide)]
      have r85 : ∀ t, rd (mclC m s (24 * n + u)) 85 0 t = if t = t9 then 24 * n + u else rd m 85 0 t := fun t => by
        rw [hmc, rd_st_ne (by decide), rd_st]
        by_cases e : t = t9
        · rw [if_pos ⟨rfl, rfl, e⟩, if_pos e, wr_wr, wr_of (by omega) (by omega)]
        · rw [if_neg (fun c => e c.2.2), if_neg e]
          unfold cl2 cl1
          rw [rd_st_ne (by decide), rd_st_ne (by decide)]
      have rb : ∀ i j, ¬ (i = 27 * x + 3 + t9 ∧ j = 4) → rd (breakC a x (27 * x + s)) 31 i j = rd (takeC a (27 * x + 3 + t9) (27 * x + s)) 31 i j := fun i j h => by rw [hb, rd_st, if_neg (fun c => h ⟨c.2.1, c.2.2⟩)]
      refine ⟨⟨?_, ?_, ?_⟩, fun s' g0 g1 hs j => ?_, fun t t0 t1 => ?_, fun hx ho g g0 g1 => ?_⟩
      · rw [rb _ _ (by omega)]; exact rd_takeW _ _ _
      · rw [rb _ _ (by omega)]; exact rd_takeW1 _ _ _
      · rw [rb _ _ (by omega)]; exact rd_takeW2 _ _ _
      · rw [rb _ _ (by omega)]; exact rd_take _ _ _ _ _ _ (by omega)
      · unfold wR
        rw [e31, e31, e31, e31, e31, e83 83 _ (by decide), e83 84 _ (by decide), e83 85 _ (by decide), rm 57 0 _ (by decide), rm 40 0 25 (by decide), r83, r84, r85]
        by_cases e : t = t9
        · subst e
          rw [if_pos rfl, if_pos rfl, if_pos rfl]
          right
          refine ⟨c2, by omega, c7, ?_, ?_, ?_, ?_, ?_⟩
          · rw [rb _ _ (by omega), rd_takeV _ _ _ hne 0 (by decide)]; exact q
          · rw [rb _ _ (by omega), rd_takeV _ _ _ hne 1 (by decide)]; exact c3
          · rw [rb _ _ (by omega), rd_takeV _ _ _ hne 2 (by decide)]; exact c4
          · rw [rb _ _ (by omega), rd_takeV _ _ _ hne 3 (by decide)]; exact c5
          · rw [hb, rd_st, if_pos ⟨rfl, rfl, rfl⟩, wr_wr, rd_take _ _ _ _ _ _ (by omega), wr_rd]; exact hw
        · rw [if_neg e, if_neg e, if_neg e]
          have rt : ∀ j, rd (breakC a x (27 * x + s)) 31 (27 * x + 3 + t) j = rd a 31 (27 * x + 3 + t) j := fun j => by rw [rb _ _ (by omega)]; exact rd_take _ _ _ _ _ _ (by omega)
          rw [rt, rt, rt, rt, rt]
          exact h4 t t0 t1
      · have e1 : rd (stB a x s) 32 0 g = rd a 32 0 g := by unfold stB; rw [rd_st_ne (by decide), hb, rd_st_ne (by decide)]; exact rd_take _ _ _ _ _ _ (by omega)
        have e2 : rd (siF (mclC m s (24 * n + u)) s) 77 0 g = rd m 77 0 g := by
          unfold siF
          rw [rd_st_ne (by decide), hmc, rd_st_ne (by decide), rd_st_ne (by decide)]
          unfold cl2 cl1
          rw [rd_st_ne (by decide), rd_st_ne (by decide)]
        rw [e1, e2]; exact ho g g0 g1
    · -- none, or an alert's: it's lost
      have hb := brk_lose (x := x) q
      have hcase : (rd m 80 0 s < 0 ∨ 23 < rd m 80 0 s) ∧ (rd m 80 0 s < 0 → rd a 31 (27 * x + s) 0 = 0 ∧ rd a 31 (27 * x + s) 1 = -1 ∧ rd a 31 (27 * x + s) 2 = 0) ∧ (¬ rd m 80 0 s < 0 → ¬ rd a 31 (27 * x + s) 0 = 0) := by
        rcases hv with ⟨g1, g2, g3, g4⟩ | ⟨g1, g2, g3, g4, g5, g6⟩ | ⟨g1, g2, g3, g4, g5, g6⟩
        · exact ⟨Or.inl (by omega), fun _ => ⟨g2, g3, g4⟩, fun c => by omega⟩
        · exact absurd g2 q
        · exact ⟨Or.inr (by omega), fun c => by omega, fun _ => by omega⟩
      have hmc : mclC m s (24 * n + u) = st (pif (0 ≤ rd m 80 0 s) (mlsC m (rd m 80 0 s) (rd m 81 0 s)) m) 80 0 s (wr (-1)) := by
        unfold mclC
        rcases hcase.1 with e | e
        · rw [pif_f (by omega), pif_f (by omega), pif_f (by omega)]
        · rw [pif_t e, pif_t (by omega)]
      refine ⟨?_, fun s' g0 g1 hs j => ?_, fun t t0 t1 => ?_, fun hx ho g g0 g1 => ?_⟩
      · rw [hb]
        by_cases e : rd m 80 0 s < 0
        · have : loseC a x (27 * x + s) = a := by unfold loseC; rw [pif_t (hcase.2.1 e).1]
          rw [this]; exact hcase.2.1 e
        · unfold loseC
          rw [pif_f (hcase.2.2 e)]
          exact ⟨rd_begin0 .., rd_begin1 .., rd_begin2 ..⟩
      · rw [hb]; exact rd_lose _ _ _ _ _ _ (by omega) (by decide)
      · unfold wR
        have rt : ∀ j, rd (breakC a x (27 * x + s)) 31 (27 * x + 3 + t) j = rd a 31 (27 * x + 3 + t) j := fun j => by rw [hb]; exact rd_lose _ _ _ _ _ _ (by omega) (by decide)
        have r8 : ∀ k : Nat, 83 ≤ k → rd (mclC m s (24 * n + u)) k 0 t = rd m k 0 t := fun k hk => by
          rw [hmc, rd_st_ne (by omega)]
          by_cases e : 0 ≤ rd m 80 0 s
          · rw [pif_t e]; exact rd_mls _ _ _ _ _ _ (by omega)
          · rw [pif_f e]
        rw [e31, e31, e31, e31, e31, e83 83 _ (by decide), e83 84 _ (by decide), e83 85 _ (by decide), rm 57 0 _ (by decide), rm 40 0 25 (by decide), r8 83 (by decide), r8 84 (by decide), r8 85 (by decide), rt, rt, rt, rt, rt]
        exact h4 t t0 t1
      · subst hx
        have e1 : rd (stB a 0 s) 32 0 g = rd (loseC a 0 (27 * 0 + s)) 32 0 g := by unfold stB; rw [rd_st_ne (by decide), hb]
        have e2 : rd (siF (mclC m s (24 * n + u)) s) 77 0 g = rd (pif (0 ≤ rd m 80 0 s) (mlsC m (rd m 80 0 s) (rd m 81 0 s)) m) 77 0 g := by unfold siF; rw [rd_st_ne (by decide), hmc, rd_st_ne (by decide)]
        rw [e1, e2]; exact lose_32 hP hv ho g g0 g1
  obtain ⟨⟨k0, k1, k2⟩, k3, k4, k5⟩ := key
  refine ⟨bkR_of h1 (fun k j q0 q1 => ra k _ j (by omega) (by omega) (by omega)) (fun k j q0 q1 => rm k _ j (by omega)), fun s' g0 g1 => ?_, k4, dsR_end h5 (by omega) fo, ?_⟩
  · by_cases e : s' = s
    · subst e
      left
      rw [f0, e31, e31, e31]
      exact ⟨rfl, k0, k1, k2⟩
    · exact vR_of (h2 s' g0 g1) (fun j _ _ => by rw [e31]; exact k3 s' g0 g1 e j) (fo s' e) (rm 81 0 _ (by decide)) (rm 82 0 _ (by decide)) (fun t => rm 57 0 t (by decide)) (fun _ g => by rw [rm 75 0 _ (by decide)]; exact g) (rm 40 0 25 (by decide)) (rm 40 0 30 (by decide))
  · refine zR_of2 h6 (fun k j hk => ra k _ j (by omega) (by omega) (by omega)) (ra 26 _ 9 (by decide) (by decide) (by decide)) (fun k j hk => rm k _ j (by omega)) k5 (fun hx ho s' g0 g1 => ?_)
    subst hx
    refine ⟨?_, ?_⟩
    · unfold stB siF
      rw [rd_st, rd_st, rd_break _ _ _ _ _ _ (by decide) (by decide), rd_mcl _ _ _ _ _ _ (by decide)]
      rw [rd_break _ _ _ _ _ _ (by decide) (by decide), rd_mcl _ _ _ _ _ _ (by decide)]
      rw [(ho s s0 s1).1]
      by_cases e : s' = s
      · rw [if_pos ⟨rfl, rfl, e⟩, if_pos ⟨rfl, rfl, e⟩]
      · rw [if_neg (fun c => e c.2.2), if_neg (fun c => e c.2.2)]; exact (ho s' g0 g1).1
    · rw [ra 34 _ _ (by decide) (by decide) (by decide), rm 79 _ _ (by decide)]; exact (ho s' g0 g1).2
