/-! ===== class and model side by side, XII: a slot, a night's end ===== -/
theorem vw_slB (m : Mm) (s : Int) : rd (slB m s) 80 0 s = -1 := by unfold slB; rw [rd_st, if_pos ⟨rfl, rfl, rfl⟩]; rfl
theorem vw_slBo (m : Mm) (s s' : Int) (h : s' ≠ s) : rd (slB m s) 80 0 s' = rd m 80 0 s' := by
  unfold slB
  rw [rd_st, if_neg (fun c => h c.2.2)]
  by_cases q : rd m 80 0 s < 0
  · rw [pif_t q]
  · rw [pif_f q]; exact rd_mls _ _ _ _ _ _ (by decide)
/-- a site's visit is idle -/
def idS (a m : Mm) (x s : Int) : Prop := rd m 80 0 s = -1 ∧ rd a 31 (27 * x + s) 0 = 0 ∧ rd a 31 (27 * x + s) 1 = -1 ∧ rd a 31 (27 * x + s) 2 = 0
theorem loseS_step {a m : Mm} {x s : Int} (hP : PR a m) (hC : CR a m x) (s0 : 0 ≤ s) (s1 : s < 3) : CR (loseC a x (27 * x + s)) (slB m s) x ∧ PR (loseC a x (27 * x + s)) (slB m s) ∧ idS (loseC a x (27 * x + s)) (slB m s) x s ∧ (∀ s', 0 ≤ s' → s' < 3 → s' ≠ s → idS a m x s' → idS (loseC a x (27 * x + s)) (slB m s) x s') := by
  obtain ⟨h1, h2, h4, h5, h6⟩ := hC
  have hv := h2 s s0 s1
  have ra : ∀ (k : Nat) (i j : Int), ¬ (k = 31 ∧ i = 27 * x + s) → k ≠ 32 → rd (loseC a x (27 * x + s)) k i j = rd a k i j := fun k i j h h' => rd_lose _ _ _ _ _ _ h h'
  have rm : ∀ (k : Nat) (i j : Int), k ≠ 77 ∧ k ≠ 80 → rd (slB m s) k i j = rd m k i j := fun k i j h => rd_slB _ _ _ _ _ h.1 h.2
  have hid : idS (loseC a x (27 * x + s)) (slB m s) x s := by
    refine ⟨vw_slB _ _, ?_⟩
    unfold loseC
    by_cases e : rd a 31 (27 * x + s) 0 = 0
    · rw [pif_t e]
      rcases hv with ⟨g1, g2, g3, g4⟩ | ⟨g1, g2, g3⟩ | ⟨g1, g2, g3⟩
      · exact ⟨g2, g3, g4⟩
      · omega
      · omega
    · rw [pif_f e]; exact ⟨rd_begin0 .., rd_begin1 .., rd_begin2 ..⟩
  refine ⟨⟨bkR_of h1 (fun k j k0 k1 => ra k _ j (by omega) (by omega)) (fun k j k0 k1 => rm k _ j (by omega)), fun s' g0 g1 => ?_, fun t t0 t1 => ?_, dsR_end h5 (by rw [vw_slB]; decide) (fun s' hs => vw_slBo _ _ _ hs), ?_⟩, PR_of hP (fun k i j hk => ra k i j (by omega) (by omega)) (fun k i j hk => rm k i j (by omega)), hid, fun s' g0 g1 hs h => ?_⟩
  · by_cases e : s' = s
    · rw [e]; exact Or.inl hid
    · exact vR_of (h2 s' g0 g1) (fun j _ _ => ra 31 _ j (by omega) (by decide)) (vw_slBo _ _ _ e) (rm 81 0 _ (by decide)) (rm 82 0 _ (by decide)) (fun t => rm 57 0 t (by decide)) (fun _ g => by rw [rm 75 0 _ (by decide)]; exact g) (rm 40 0 25 (by decide)) (rm 40 0 30 (by decide))
  · exact wR_of (h4 t t0 t1) (fun j => ra 31 _ j (by omega) (by decide)) (rm 83 0 t (by decide)) (rm 84 0 t (by decide)) (rm 85 0 t (by decide)) (rm 57 0 t (by decide)) (rm 40 0 25 (by decide))
  · refine zR_of2 h6 (fun k j hk => ra k _ j (by omega) (by omega)) (ra 26 _ 9 (by omega) (by decide)) (fun k j hk => rm k _ j (by omega)) (fun hx ho => ?_) (fun hx ho s' g0 g1 => ?_)
    · subst hx
      have hl := lose_32 hP hv ho
      intro g g0 g1
      rw [hl g g0 g1]
      unfold slB
      rw [rd_st_ne (by decide)]
      by_cases e : rd m 80 0 s < 0
      · rw [pif_t e, pif_f (by omega)]
      · rw [pif_f e, pif_t (by omega)]
    · rw [ra 33 _ _ (by omega) (by decide), ra 34 _ _ (by omega) (by decide), rm 78 _ _ (by decide), rm 79 _ _ (by decide)]; exact ho s' g0 g1
  · unfold idS at h ⊢
    rw [vw_slBo _ _ _ hs, ra 31 _ _ (by omega) (by decide), ra 31 _ _ (by omega) (by decide), ra 31 _ _ (by omega) (by decide)]
    exact h
theorem loseT_step {a m : Mm} {x t : Int} (hP : PR a m) (hC : CR a m x) (t0 : 0 ≤ t) (t1 : t < rd m 40 0 25) : CR (loseC a x (27 * x + 3 + t)) (slT t m) x ∧ PR (loseC a x (27 * x + 3 + t)) (slT t m) := by
  have hT : rd m 40 0 25 ≤ 24 := hP.2.2.2.1.2
  obtain ⟨h1, h2, h4, h5, h6⟩ := hC
  have ra : ∀ (k : Nat) (i j : Int), ¬ (k = 31 ∧ i = 27 * x + 3 + t) → k ≠ 32 → rd (loseC a x (27 * x + 3 + t)) k i j = rd a k i j := fun k i j h h' => rd_lose _ _ _ _ _ _ h h'
  have rm : ∀ (k : Nat) (i j : Int), k ≠ 77 ∧ k ≠ 83 → rd (slT t m) k i j = rd m k i j := fun k i j h => rd_slT _ _ _ _ _ h.1 h.2
  have r83 : ∀ z, rd (slT t m) 83 0 z = if z = t then 0 else rd m 83 0 z := fun z => by
    unfold slT
    rw [rd_st]
    by_cases e : z = t
    · rw [if_pos ⟨rfl, rfl, e⟩, if_pos e]; rfl
    · rw [if_neg (fun c => e c.2.2), if_neg e]
      by_cases q : 0 < rd m 83 0 t
      · rw [pif_t q]; exact rd_mls _ _ _ _ _ _ (by decide)
      · rw [pif_f q]
  refine ⟨⟨bkR_of h1 (fun k j k0 k1 => ra k _ j (by omega) (by omega)) (fun k j k0 k1 => rm k _ j (by omega)), fun s' g0 g1 => ?_, fun z z0 z1 => ?_, dsR_of h5 (fun s' => rm 80 0 s' (by decide)), ?_⟩, PR_of hP (fun k i j hk => ra k i j (by omega) (by omega)) (fun k i j hk => rm k i j (by omega))⟩
  · exact vR_of (h2 s' g0 g1) (fun j _ _ => ra 31 _ j (by omega) (by decide)) (rm 80 0 _ (by decide)) (rm 81 0 _ (by decide)) (rm 82 0 _ (by decide)) (fun t => rm 57 0 t (by decide)) (fun _ g => by rw [rm 75 0 _ (by decide)]; exact g) (rm 40 0 25 (by decide)) (rm 40 0 30 (by decide))
  · unfold wR
    rw [r83]
    by_cases e : z = t
    · subst e
      rw [if_pos rfl]
      exact Or.inl ⟨rfl, rd_lose0 _ _ _⟩
    · rw [if_neg e, rm 84 0 _ (by decide), rm 85 0 _ (by decide), rm 57 0 _ (by decide), rm 40 0 25 (by decide), ra 31 _ _ (by omega) (by decide), ra 31 _ _ (by omega) (by decide), ra 31 _ _ (by omega) (by decide), ra 31 _ _ (by omega) (by decide), ra 31 _ _ (by omega) (by decide)]
      exact h4 z z0 z1
  · refine zR_of2 h6 (fun k j hk => ra k _ j (by omega) (by omega)) (ra 26 _ 9 (by omega) (by decide)) (fun k j hk => rm k _ j (by omega)) (fun hx ho => ?_) (fun hx ho s' g0 g1 => ?_)
    · subst hx
      intro g g0 g1
      unfold slT
      rw [rd_st_ne (by decide)]
      unfold loseC
      rcases h4 t t0 (by omega) with ⟨w1, w2⟩ | ⟨w1, w2, w3, w4, w5, w6, w7, w8⟩
      · rw [pif_t w2, pif_f (by omega)]; exact ho g g0 g1
      · have hg := grp_r hP.2.2 t0 (show t < 34 by omega)
        have eg : grpC a (27 * 0 + 3 + t) = grpM m t := by
          unfold grpC grpM
          rw [pif_t w4, w5, pif_t (by omega)]
          exact (hP.2.1.2.2.2.1 t t0 t1).1.2.2.1
        rw [pif_f (by omega), pif_t w2, rd_begin _ _ _ _ _ _ _ (by omega), eg, w6]
        unfold mlsC
        rw [rd_st, rd_st, ho _ hg.1 hg.2]
        by_cases q2 : g = grpM m t
        · rw [if_pos ⟨rfl, rfl, q2⟩, if_pos ⟨rfl, rfl, q2⟩]
        · rw [if_neg (fun c => q2 c.2.2), if_neg (fun c => q2 c.2.2)]; exact ho g g0 g1
    · rw [ra 33 _ _ (by omega) (by decide), ra 34 _ _ (by omega) (by decide), rm 78 _ _ (by decide), rm 79 _ _ (by decide)]; exact ho s' g0 g1
theorem loseN_step {x : Int} : ∀ (q : Nat) (c : Int) (a m : Mm), 0 ≤ c → c + q = 24 → PR a m → CR a m x → (∀ t, 0 ≤ t → t < c → rd a 31 (27 * x + 3 + t) 0 = 0) → (∀ s, 0 ≤ s → s < 3 → idS a m x s) →
    CR (fori (fun t m => loseC m x (27 * x + 3 + t)) q c a) (fori slT (rd m 40 0 25 - c).toNat c m) x ∧ PR (fori (fun t m => loseC m x (27 * x + 3 + t)) q c a) (fori slT (rd m 40 0 25 - c).toNat c m) ∧ (∀ t, 0 ≤ t → t < 24 → rd (fori (fun t m => loseC m x (27 * x + 3 + t)) q c a) 31 (27 * x + 3 + t) 0 = 0) ∧ (∀ s, 0 ≤ s → s < 3 → idS (fori (fun t m => loseC m x (27 * x + 3 + t)) q c a) (fori slT (rd m 40 0 25 - c).toNat c m) x s) := by
  intro q
  induction q with
  | zero =>
    intro c a m c0 hc hP hC hk hs
    have hT : rd m 40 0 25 ≤ 24 := hP.2.2.2.1.2
    rw [show (rd m 40 0 25 - c).toNat = 0 by omega]
    exact ⟨hC, hP, fun t t0 t1 => hk t t0 (by omega), hs⟩
  | succ q ih =>
    intro c a m c0 hc hP hC hk hs
    have hT : rd m 40 0 25 ≤ 24 := hP.2.2.2.1.2
    by_cases hlt : c < rd m 40 0 25
    · obtain ⟨g1, g2⟩ := loseT_step hP hC c0 hlt
      have e25 : rd (slT c m) 40 0 25 = rd m 40 0 25 := rd_slT _ _ _ _ _ (by decide) (by decide)
      have h := ih (c + 1) (loseC a x (27 * x + 3 + c)) (slT c m) (by omega) (by omega) g2 g1 (fun t t0 t1 => ?_) (fun s s0 s1 => ?_)
      · rw [e25, show rd m 40 0 25 - (c + 1) = rd m 40 0 25 - c - 1 by omega] at h
        rw [show (rd m 40 0 25 - c).toNat = (rd m 40 0 25 - c - 1).toNat + 1 by omega]
        exact h
      · by_cases e : t = c
        · rw [e]; exact rd_lose0 _ _ _
        · rw [rd_lose _ _ _ _ _ _ (by omega) (by decide)]; exact hk t t0 (by omega)
      · unfold idS
        rw [rd_slT _ _ _ _ _ (by decide) (by decide), rd_lose _ _ _ _ _ _ (by omega) (by decide), rd_lose _ _ _ _ _ _ (by omega) (by decide), rd_lose _ _ _ _ _ _ (by omega) (by decide)]
        exact hs s s0 s1
    · have hz : rd a 31 (27 * x + 3 + c) 0 = 0 := by
        rcases hC.2.2.1 c c0 (by omega) with ⟨w1, w2⟩ | ⟨w1, w2⟩
        · exact w2
        · omega
      have el : loseC a x (27 * x + 3 + c) = a := by unfold loseC; rw [pif_t hz]
      have h := ih (c + 1) a m (by omega) (by omega) hP hC (fun t t0 t1 => ?_) hs
      · rw [show (rd m 40 0 25 - (c + 1)).toNat = 0 by omega] at h
        rw [show (rd m 40 0 25 - c).toNat = 0 by omega]
        show CR (fori (fun t m => loseC m x (27 * x + 3 + t)) q (c + 1) (loseC a x (27 * x + 3 + c))) (fori slT 0 c m) x ∧ PR (fori (fun t m => loseC m x (27 * x + 3 + t)) q (c + 1) (loseC a x (27 * x + 3 + c))) (fori slT 0 c m) ∧ (∀ t, 0 ≤ t → t < 24 → rd (fori (fun t m => loseC m x (27 * x + 3 + t)) q (c + 1) (loseC a x (27 * x + 3 + c))) 31 (27 * x + 3 + t) 0 = 0) ∧ (∀ s, 0 ≤ s → s < 3 → idS (fori (fun t m => loseC m x (27 * x + 3 + t)) q (c + 1) (loseC a x (27 * x + 3 + c))) (fori slT 0 c m) x s)
        rw [el]
        exact h
      · by_cases e : t = c
        · rw [e]; exact hz
        · exact hk t t0 (by omega)
/-- all visits of a course are idle -/
def idR (a : Mm) (x : Int) : Prop := (∀ s, 0 ≤ s → s < 3 → rd a 31 (27 * x + s) 0 = 0 ∧ rd a 31 (27 * x + s) 1 = -1 ∧ rd a 31 (27 * x + s) 2 = 0) ∧ (∀ t, 0 ≤ t → t < 24 → rd a 31 (27 * x + 3 + t) 0 = 0)
theorem night_step {a m : Mm} {x : Int} (hP : PR a m) (hC : CR a m x) : CR (enC a x) (slE m) x ∧ PR (enC a x) (slE m) ∧ idR (enC a x) x := by
  obtain ⟨c0, p0, i0, -⟩ := loseS_step hP hC (s := 0) (by decide) (by decide)
  obtain ⟨c1, p1, i1, j1⟩ := loseS_step p0 c0 (s := 0 + 1) (by decide) (by decide)
  obtain ⟨c2, p2, i2, j2⟩ := loseS_step p1 c1 (s := 0 + 1 + 1) (by decide) (by decide)
  have e25 : rd (slB (slB (slB m 0) (0 + 1)) (0 + 1 + 1)) 40 0 25 = rd m 40 0 25 := by rw [rd_slB _ _ _ _ _ (by decide) (by decide), rd_slB _ _ _ _ _ (by decide) (by decide), rd_slB _ _ _ _ _ (by decide) (by decide)]
  have hid : ∀ s, 0 ≤ s → s < 3 → idS (loseC (loseC (loseC a x (27 * x + 0)) x (27 * x + (0 + 1))) x (27 * x + (0 + 1 + 1))) (slB (slB (slB m 0) (0 + 1)) (0 + 1 + 1)) x s := fun s s0 s1 => by
    rcases (show s = 0 ∨ s = 0 + 1 ∨ s = 0 + 1 + 1 by omega) with rfl | rfl | rfl
    · exact j2 _ (by decide) (by decide) (by decide) (j1 _ (by decide) (by decide) (by decide) i0)
    · exact j2 _ (by decide) (by decide) (by decide) i1
    · exact i2
  obtain ⟨h1, h2, h3, h4⟩ := loseN_step 24 0 _ _ (by decide) (by decide) p2 c2 (fun t t0 t1 => by omega) hid
  rw [e25, Int.sub_zero] at h1 h2 h4
  unfold enC slE
  exact ⟨h1, h2, fun s s0 s1 => (h4 s s0 s1).2, h3⟩
theorem slot_step {a m : Mm} {x n u : Int} (hP : PR a m) (hx : x = 0 ∨ x = 1) (hC : CR a m x) (hw : rd a 26 x 8 = 24 * n + u) (n0 : 0 ≤ n) (n1 : n < 30) (u0 : 0 ≤ u) (u1 : u < 24) : CR (slotC a x) (slM m n u) x ∧ PR (slotC a x) (slM m n u) ∧ rd (slotC a x) 26 x 8 = 24 * n + u + 1 ∧ (u = 23 → idR (slotC a x) x) := by
  obtain ⟨c0, p0, w0⟩ := site_step hP hx hC hw (s := 0) (by decide) (by decide) n0 n1 u0 u1
  obtain ⟨c1, p1, w1⟩ := site_step p0 hx c0 w0 (s := 0 + 1) (by decide) (by decide) n0 n1 u0 u1
  obtain ⟨c2, p2, w2⟩ := site_step p1 hx c1 w1 (s := 0 + 1 + 1) (by decide) (by decide) n0 n1 u0 u1
  have ra : ∀ (k : Nat) (i j : Int), ¬ (k = 26 ∧ j = 8) → rd (tick (sitesC a x) x) k i j = rd (sitesC a x) k i j := fun k i j hk => by unfold tick; rw [rd_st, if_neg (fun c => hk ⟨c.1, c.2.2⟩)]
  have w3 : rd (tick (sitesC a x) x) 26 x 8 = 24 * n + u + 1 := by
    unfold tick
    rw [rd_st, if_pos ⟨rfl, rfl, rfl⟩, wr_wr]
    unfold sitesC
    rw [w2, wr_of (by omega) (by omega)]
  have p3 : PR (tick (sitesC a x) x) (slA m n u) := PR_of p2 (fun k i j hk => ra k i j (by omega)) (fun k i j hk => rfl)
  have c3 : CR (tick (sitesC a x) x) (slA m n u) x := by
    obtain ⟨h1, h2, h4, h5, h6⟩ := c2
    exact ⟨bkR_of h1 (fun k j k0 k1 => ra k _ j (by omega)) (fun k j k0 k1 => rfl), fun s' g0 g1 => vR_of (h2 s' g0 g1) (fun j _ _ => ra 31 _ j (by omega)) rfl rfl rfl (fun t => rfl) (fun _ g => g) rfl rfl, fun t t0 t1 => wR_of (h4 t t0 t1) (fun j => ra 31 _ j (by omega)) rfl rfl rfl rfl rfl, h5, zR_of h6 (fun k j hk => ra k _ j (by omega)) (ra 26 _ 9 (by omega)) (fun k j hk => rfl)⟩
  unfold slotC slM
  rw [w3, jrem_of (by omega) (by omega) (by decide) (by decide)]
  by_cases q : u = 23
  · rw [pif_t (by omega), pif_t q]
    obtain ⟨g1, g2, g3⟩ := night_step p3 c3
    exact ⟨g1, g2, (rd_en _ _ _ _ _ (by omega)).trans w3, fun _ => g3⟩
  · rw [pif_f (by omega), pif_f q]
    exact ⟨c3, p3, w3, fun h => absurd h q⟩
