/-! ===== class and model side by side, X: the step that ends a visit ===== -/
theorem finish_step {a m : Mm} {x s n u w : Int} (hP : PR a m) (hx : x = 0 ∨ x = 1) (bk : bkR a m (30 + x)) (h2 : ∀ s', 0 ≤ s' → s' < 3 → ¬ s' = s → vR 1 a m x s') (h4 : ∀ t, 0 ≤ t → t < 24 → wR a m x t) (h5 : dsR m) (h6 : zR a m x) (hw : rd a 26 x 8 = 24 * n + u) (s0 : 0 ≤ s) (s1 : s < 3) (n0 : 0 ≤ n) (n1 : n < 30) (u0 : 0 ≤ u) (u1 : u < 24) (hvw : rd m 80 0 s = w)
    (hv : (rd a 31 (27 * x + s) 0 = 1 ∧ 0 ≤ w ∧ w < rd m 40 0 25 ∧ rd a 31 (27 * x + s) 1 = w) ∨ (rd a 31 (27 * x + s) 0 = 2 ∧ 24 ≤ w ∧ w < 24 + rd m 40 0 30 ∧ rd a 31 (27 * x + s) 1 = w - 24)) (hh : rd a 31 (27 * x + s) 2 = rd m 57 0 w) (hq : rd a 31 (27 * x + s) 3 = rd m 82 0 s) : CR (finC a x (27 * x + s) s) (donC m s n u) x := by
  have hI := hP.2.2
  have hT : rd m 40 0 25 ≤ 24 := hI.2.1.2
  have hA : rd m 40 0 30 ≤ 10 := hI.2.2.1.2
  obtain ⟨-, -, e3, -⟩ := t_div n0 n1 u0 u1
  have w0 : 0 ≤ w := by rcases hv with h | h <;> omega
  have w1 : w < 34 := by rcases hv with h | h <;> omega
  obtain ⟨⟨-, -⟩, ⟨-, l6⟩, i0, i1⟩ := hI.2.2.2.1 w w0 w1
  -- what the aim says
  have A4 : aimF a (27 * x + s) 4 = rd m 58 0 w := by
    unfold aimF
    rcases hv with ⟨k, _, c, e⟩ | ⟨k, b, c, e⟩
    · rw [pif_t k, e]; exact (hP.2.1.2.2.2.1 w w0 c).1.1.2.2.2.1
    · rw [pif_f (by omega), e]
      have := (hP.2.1.2.2.2.2.1 (w - 24) (by omega) (by omega)).1.2.2.2.1
      rwa [show 24 + (w - 24) = w by omega] at this
  have A8 : aimF a (27 * x + s) 8 = pif (23 < w) 0 (rd m 51 0 (rd m 54 0 w)) := by
    unfold aimF
    rcases hv with ⟨k, _, c, e⟩ | ⟨k, b, c, e⟩
    · rw [pif_t k, e, pif_f (by omega)]; exact (hP.2.1.2.2.2.1 w w0 c).1.2.2.2.1
    · rw [pif_f (by omega), e, pif_t (by omega)]
      exact (hP.2.1.2.2.2.2.2.1 (w - 24) (by omega) (by omega)).2.2.2
  have Ag : pif (rd a 31 (27 * x + s) 0 = 1) (rd a 18 (rd a 31 (27 * x + s) 1) 0) (rd a 19 (rd a 31 (27 * x + s) 1) 0) = grpM m w := by
    unfold grpM
    rcases hv with ⟨k, _, c, e⟩ | ⟨k, b, c, e⟩
    · rw [pif_t k, e, pif_t (by omega)]; exact (hP.2.1.2.2.2.1 w w0 c).1.2.2.1
    · rw [pif_f (by omega), e, pif_f (by omega)]
      have := (hP.2.1.2.2.2.2.1 (w - 24) (by omega) (by omega)).2.1
      rwa [show 24 + (w - 24) = w by omega] at this
  have hg := grp_r hI w0 w1
  have hN : finN a x = n := by unfold finN; rw [hw, e3]
  obtain ⟨U, hU'⟩ : ∃ U, mnwC m s (rd m 58 0 w) n = U := ⟨_, rfl⟩
  have hU : finU a x (27 * x + s) s = U := by unfold finU; rw [hN, A4, ← hU']; exact sk_new hP.1 s0 s1 i0 i1 n0 n1
  have hUr : -1 ≤ U ∧ U < 30 := by
    have := fdown_range (fun t1 => ¬ rd m 47 0 (90 * s + 30 * rd m 58 0 w + t1) = 0) (n + 1).toNat
    replace this : -1 ≤ mnwC m s (rd m 58 0 w) n ∧ mnwC m s (rd m 58 0 w) n < ((n + 1).toNat : Nat) := this
    rw [hU'] at this
    omega
  have hdA : dA m s n w = n - U := by unfold dA; rw [hU']
  have hQ : wr (finQ a x (27 * x + s) s) = wr (dQ m s n w) ∧ 0 ≤ wr (dQ m s n w) := by
    unfold finQ dQ dR jmax
    rw [hN, hU, hdA, hq, wr_0]
    generalize 100 - rd m 82 0 s - 5 * (n - U) = R
    by_cases c : 0 < wr R
    · rw [if_pos c, pif_t (by omega)]; exact ⟨rfl, by omega⟩
    · rw [if_neg c]
      by_cases c2 : 0 ≤ wr R
      · rw [pif_t c2, wr_0]; omega
      · rw [pif_f c2]; exact ⟨rfl, by decide⟩
  have hG : finG a x (27 * x + s) s = bz (dG m s n w) := by
    unfold finG
    rw [A8, hQ.1]
    by_cases c : 23 < w
    · rw [pif_t c, pif_f (by omega)]; exact (bz_t (Or.inl c)).symm
    · rw [pif_f c]
      by_cases c2 : wr (dQ m s n w) < rd m 51 0 (rd m 54 0 w)
      · rw [pif_t c2, bz_f]
        rintro (h | h) <;> omega
      · rw [pif_f c2]; exact (bz_t (Or.inr (by omega))).symm
  obtain ⟨f, hf⟩ : ∃ f, bz (dG m s n w) = f := ⟨_, rfl⟩
  have hf01 : f = 0 ∨ f = 1 := by rw [← hf]; exact bz01 _
  have hfA : 23 < w → f = 1 := fun c => by rw [← hf]; exact bz_t (Or.inl c)
  -- the class, step by step
  obtain ⟨m1, hm1⟩ : ∃ m1, fin1 a x (27 * x + s) s = m1 := ⟨_, rfl⟩
  have r1 : ∀ (k : Nat) (i j : Int), k ≠ 27 → k ≠ 28 → rd m1 k i j = rd a k i j := fun k i j h h' => by rw [← hm1]; exact rd_keep _ _ _ _ _ _ _ _ _ _ _ h' h
  obtain ⟨m2, hm2⟩ : ∃ m2, fin2 a m1 x (27 * x + s) = m2 := ⟨_, rfl⟩
  have r2 : ∀ (k : Nat) (i j : Int), k ≠ 25 → rd m2 k i j = rd m1 k i j := fun k i j h => by rw [← hm2]; unfold fin2; exact rd_st_ne h
  have r25 : ∀ z, rd m2 25 (30 + x) z = if z = grpM m w then wr (rd a 25 (30 + x) (grpM m w) + rd m 57 0 w) else rd a 25 (30 + x) z := fun z => by
    rw [← hm2]
    unfold fin2
    rw [r1 18 _ _ (by omega) (by omega), r1 19 _ _ (by omega) (by omega), Ag, rd_st, wr_wr, r1 25 _ _ (by omega) (by omega), r1 25 _ _ (by omega) (by omega), r1 31 _ _ (by omega) (by omega), hh]
    by_cases e : z = grpM m w
    · rw [if_pos ⟨rfl, rfl, e⟩, if_pos e]
    · rw [if_neg (fun c => e c.2.2), if_neg e]
  obtain ⟨m3, hm3⟩ : ∃ m3, fin3 m2 x (27 * x + s) n f = m3 := ⟨_, rfl⟩
  have r3 : ∀ (k : Nat) (i j : Int), (k < 21 ∨ 24 < k) → rd m3 k i j = rd m2 k i j := fun k i j h => by
    rw [← hm3]
    unfold fin3
    by_cases q2 : rd m2 31 (27 * x + s) 0 = 2
    · rw [pif_t q2, rd_st_ne (by omega)]
    · rw [pif_f q2]
      by_cases qg : f = 0
      · rw [pif_t qg]
      · rw [pif_f qg, rd_add _ _ _ _ _ _ _ (by omega)]
  have ha' : finC a x (27 * x + s) s = fin4 m3 x (27 * x + s) f := by unfold finC; rw [hm1, hN, hG, hf, hm2, hm3]
  have r4 : ∀ (k : Nat) (i j : Int), ¬ (k = 31 ∧ i = 27 * x + s) → ¬ (k = 26 ∧ j = 9) → rd (finC a x (27 * x + s) s) k i j = rd m3 k i j := fun k i j h h' => by
    rw [ha']
    unfold fin4
    rw [rd_begin _ _ _ _ _ _ _ h, rd_st, if_neg (fun c => h' ⟨c.1, c.2.2⟩)]
  have ra : ∀ (k : Nat) (i j : Int), (k < 21 ∨ 28 < k ∨ k = 26) → ¬ (k = 31 ∧ i = 27 * x + s) → ¬ (k = 26 ∧ j = 9) → rd (finC a x (27 * x + s) s) k i j = rd a k i j := fun k i j h h' h'' => by
    rw [r4 k i j h' h'', r3 k i j (by omega), r2 k i j (by omega), r1 k i j (by omega) (by omega)]
  -- the model, step by step
  obtain ⟨e2m, he2⟩ : ∃ e2m, d2 (d1 m w) f = e2m := ⟨_, rfl⟩
  have t2 : ∀ (k : Nat) (j : Int), k ≠ 76 → ¬ (k = 40 ∧ j = 51) → rd e2m k 0 j = rd m k 0 j := fun k j h h' => by
    rw [← he2]
    unfold d2 d1
    rw [rd_st, if_neg (fun c => h' ⟨c.1, c.2.2⟩), rd_st_ne h]
  have t76 : ∀ z, rd e2m 76 0 z = if z = grpM m w then wr (rd m 76 0 (grpM m w) + rd m 57 0 w) else rd m 76 0 z := fun z => by
    rw [← he2]
    unfold d2
    rw [rd_st_ne (by omega)]
    unfold d1
    rw [rd_st, wr_wr]
    by_cases e : z = grpM m w
    · rw [if_pos ⟨rfl, rfl, e⟩, if_pos e]
    · rw [if_neg (fun c => e c.2.2), if_neg e]
  have t51 : rd e2m 40 0 51 = wr (rd m 40 0 51 + f) := by
    rw [← he2]
    unfold d2
    rw [rd_st, if_pos ⟨rfl, rfl, rfl⟩, wr_wr]
    unfold d1
    rw [rd_st_ne (by omega)]
  obtain ⟨e6m, he6⟩ : ∃ e6m, d6 e2m w n f = e6m := ⟨_, rfl⟩
  have t6 : ∀ (k : Nat) (j : Int), (k < 72 ∨ 75 < k) → rd e6m k 0 j = rd e2m k 0 j := fun k j h => by rw [← he6]; exact rd_d6 _ _ _ _ _ _ _ (by omega)
  have hm' : donC m s n u = st (d8 e6m s n u w (dQ m s n w) f (dA m s n w)) 80 0 s (wr (-1)) := by unfold donC donF; rw [hvw, hf, he2, he6]
  have t8 : ∀ (k : Nat) (j : Int), k ≠ 80 → ¬ (k = 40 ∧ j = 58) → ¬ (93 ≤ k ∧ k ≤ 98) → rd (donC m s n u) k 0 j = rd e6m k 0 j := fun k j h h' h'' => by rw [hm', rd_st_ne h]; exact rd_d8 _ _ _ _ _ _ _ _ _ _ _ ⟨h', h''⟩
  have rm : ∀ (k : Nat) (j : Int), ¬ (72 ≤ k ∧ k ≤ 76) → k ≠ 80 → ¬ (k = 40 ∧ (j = 58 ∨ j = 51)) → ¬ (93 ≤ k ∧ k ≤ 98) → rd (donC m s n u) k 0 j = rd m k 0 j := fun k j h h' h'' h3 => by
    rw [t8 k j h' (by omega) h3, t6 k j (by omega), t2 k j (by omega) (by omega)]
  have f80 : rd (donC m s n u) 80 0 s = -1 := by rw [hm', rd_st, if_pos ⟨rfl, rfl, rfl⟩]; rfl
  have fo80 : ∀ s', s' ≠ s → rd (donC m s n u) 80 0 s' = rd m 80 0 s' := fun s' hs => by
    rw [hm', rd_st, if_neg (fun c => hs c.2.2), rd_d8 _ _ _ _ _ _ _ _ _ _ _ (by omega), t6 80 _ (by omega), t2 80 _ (by omega) (by omega)]
  have f75 : ∀ z, rd (donC m s n u) 75 0 z = pif (23 < w) (if z = w - 24 then n else rd m 75 0 z) (rd m 75 0 z) := fun z => by
    rw [t8 75 _ (by omega) (by omega) (by omega), ← he6, d6_75, t2 75 _ (by omega) (by omega), wr_of (by omega) (by omega)]
  have k31 : rd m2 31 (27 * x + s) 0 = rd a 31 (27 * x + s) 0 ∧ rd m2 31 (27 * x + s) 1 = rd a 31 (27 * x + s) 1 := ⟨by rw [r2 31 _ _ (by omega), r1 31 _ _ (by omega) (by omega)], by rw [r2 31 _ _ (by omega), r1 31 _ _ (by omega) (by omega)]⟩
  have hbk : bkR (finC a x (27 * x + s) s) (donC m s n u) (30 + x) := by
    refine ⟨fun t t0 t1 => ?_, fun i q0 q1 => ?_, fun g q0 q1 => ?_⟩
    · rw [r4 21 _ _ (by omega) (by omega), r4 22 _ _ (by omega) (by omega), r4 23 _ _ (by omega) (by omega), t8 72 _ (by omega) (by omega) (by omega), t8 73 _ (by omega) (by omega) (by omega), t8 74 _ (by omega) (by omega) (by omega), ← he6, d6_72, d6_73, d6_74, ← hm3]
      unfold fin3
      have old : rd m2 21 (30 + x) t = rd e2m 72 0 t ∧ rd m2 22 (30 + x) t = rd e2m 74 0 t ∧ rd m2 23 (30 + x) t = rd e2m 73 0 t := by
        rw [r2 21 _ _ (by omega), r2 22 _ _ (by omega), r2 23 _ _ (by omega), r1 21 _ _ (by omega) (by omega), r1 22 _ _ (by omega) (by omega), r1 23 _ _ (by omega) (by omega), t2 72 _ (by omega) (by omega), t2 73 _ (by omega) (by omega), t2 74 _ (by omega) (by omega)]
        exact bk.1 t t0 t1
      rcases hv with ⟨k, _, c, e⟩ | ⟨k, b, c, e⟩
      · rw [pif_f (by rw [k31.1, k]; decide)]
        rcases hf01 with rfl | rfl
        · rw [pif_t rfl, pif_t (Or.inr rfl), pif_t (Or.inr rfl), pif_t (Or.inr rfl)]; exact old
        · rw [pif_f (by omega), pif_f (by omega), pif_f (by omega), pif_f (by omega), add_21, add_22, add_23, k31.2, e]
          have hr := (hP.2.1.2.2.2.1 w w0 c).1
          have e9 : rd m2 18 w 9 = w := by rw [r2 18 _ _ (by omega), r1 18 _ _ (by omega) (by omega)]; exact hr.2.2.2.2.1
          have ow : rd m2 21 (30 + x) w = rd e2m 72 0 w ∧ rd m2 22 (30 + x) w = rd e2m 74 0 w ∧ rd m2 23 (30 + x) w = rd e2m 73 0 w := by
            rw [r2 21 _ _ (by omega), r2 22 _ _ (by omega), r2 23 _ _ (by omega), r1 21 _ _ (by omega) (by omega), r1 22 _ _ (by omega) (by omega), r1 23 _ _ (by omega) (by omega), t2 72 _ (by omega) (by omega), t2 73 _ (by omega) (by omega), t2 74 _ (by omega) (by omega)]
            exact bk.1 w w0 (by omega)
          have eph : phC m2 (30 + x) w n = pif (rd m 63 0 w < 0) (-1) (trnC m w n) := by
            rw [phC_of (m := a) _ _ _ (fun i j => by rw [r2 18 _ _ (by omega), r1 18 _ _ (by omega) (by omega)]) (fun i j => by rw [r2 23 _ _ (by omega), r1 23 _ _ (by omega) (by omega)])]
            unfold phC
            by_cases c2 : rd m 63 0 w < 0
            · rw [pif_t (hr.2.2.2.2.2.2.2.1.mpr c2), pif_t c2]
            · rw [pif_f (fun c3 => c2 (hr.2.2.2.2.2.2.2.1.mp c3)), pif_f c2]
              exact tg_open hr (by omega) (bk.1 w w0 (by omega)).2.2
          have etr : trnC e2m w n = trnC m w n := trnC_of _ _ (fun k j k0 k1 => t2 k j (by omega) (by omega))
          have e63 : rd e2m 63 0 w = rd m 63 0 w := t2 63 _ (by omega) (by omega)
          rw [e9, eph, etr, e63, ow.1, ow.2.1, ow.2.2, old.1, old.2.1, old.2.2]
          refine ⟨rfl, rfl, ?_⟩
          by_cases c2 : rd m 63 0 w < 0
          · rw [pif_t c2, pif_t rfl, pif_f (by omega), jor_0, wr_rd]
            by_cases e5 : t = w
            · rw [if_pos e5, e5]
            · rw [if_neg e5]
          · rw [pif_f c2]
            by_cases c3 : trnC m w n = -1
            · rw [pif_t c3, pif_f (fun h => h.2 c3), jor_0, wr_rd]
              by_cases e5 : t = w
              · rw [if_pos e5, e5]
              · rw [if_neg e5]
            · rw [pif_f c3, pif_t ⟨by omega, c3⟩]
      · rw [pif_t (by rw [k31.1, k]), pif_t (Or.inl (by omega)), pif_t (Or.inl (by omega)), pif_t (Or.inl (by omega)), rd_st_ne (by omega), rd_st_ne (by omega), rd_st_ne (by omega)]
        exact old
    · rw [f75, r4 24 _ _ (by omega) (by omega), ← hm3]
      unfold fin3
      have old : rd m2 24 (30 + x) i = rd a 24 (30 + x) i := by rw [r2 24 _ _ (by omega), r1 24 _ _ (by omega) (by omega)]
      rcases hv with ⟨k, _, c, e⟩ | ⟨k, b, c, e⟩
      · rw [pif_f (by rw [k31.1, k]; decide), pif_f (p := 23 < w) (by omega)]
        rcases hf01 with rfl | rfl
        · rw [pif_t rfl, old]; exact bk.2.1 i q0 q1
        · rw [pif_f (by omega), rd_add _ _ _ _ _ _ _ (by omega), old]; exact bk.2.1 i q0 q1
      · rw [pif_t (by rw [k31.1, k]), pif_t (by omega), rd_st, k31.2, e]
        by_cases c2 : i = w - 24
        · rw [if_pos ⟨rfl, rfl, c2⟩, if_pos c2]
          refine ⟨Or.inr (by decide), ?_⟩
          constructor
          · intro h; exact absurd h (by decide)
          · intro h; omega
        · rw [if_neg (fun c3 => c2 c3.2.2), if_neg c2, old]; exact bk.2.1 i q0 q1
    · rw [r4 25 _ _ (by omega) (by omega), r3 25 _ _ (by omega), r25, t8 76 _ (by omega) (by omega) (by omega), t6 76 _ (by omega), t76, bk.2.2 _ hg.1 hg.2, bk.2.2 g q0 q1]
  refine ⟨hbk, fun s' g0 g1 => ?_, fun t t0 t1 => ?_, dsR_end h5 (by omega) fo80, ?_⟩
  · by_cases e : s' = s
    · subst e
      left
      rw [f80, ha']
      unfold fin4
      exact ⟨rfl, rd_begin0 .., rd_begin1 .., rd_begin2 ..⟩
    · refine vR_of (h2 s' g0 g1 e) (fun j _ _ => ra 31 _ j (by omega) (by omega) (by omega)) (fo80 s' e) (rm 81 _ (by omega) (by omega) (by omega) (by omega)) (rm 82 _ (by omega) (by omega) (by omega) (by omega)) (fun t => rm 57 _ (by omega) (by omega) (by omega) (by omega)) (fun hz g => ?_) (rm 40 25 (by omega) (by omega) (by omega) (by omega)) (rm 40 30 (by omega) (by omega) (by omega) (by omega))
      rw [f75]
      by_cases c : 23 < w
      · have hne := h5 s' s g0 g1 s0 s1 e hz
        rw [hvw] at hne
        rw [pif_t c, if_neg (by omega)]; exact g
      · rw [pif_f c]; exact g
  · exact wR_of (h4 t t0 t1) (fun j => ra 31 _ j (by omega) (by omega) (by omega)) (rm 83 _ (by omega) (by omega) (by omega) (by omega)) (rm 84 _ (by omega) (by omega) (by omega) (by omega)) (rm 85 _ (by omega) (by omega) (by omega) (by omega)) (rm 57 _ (by omega) (by omega) (by omega) (by omega)) (rm 40 25 (by omega) (by omega) (by omega) (by omega))
  · obtain ⟨z1, z2, z3⟩ := h6
    refine ⟨?_, fun q => ?_, fun q => ?_⟩
    · rw [rm 40 50 (by omega) (by omega) (by omega) (by omega)]; exact z1
    · subst q
      rw [t8 40 51 (by omega) (by omega) (by omega), t6 40 51 (by omega), t51, ha']
      unfold fin4
      rw [rd_begin _ _ _ _ _ _ _ (by omega), rd_st, if_pos ⟨rfl, rfl, rfl⟩, wr_wr, r3 26 _ _ (by omega), r2 26 _ _ (by omega), r1 26 _ _ (by omega) (by omega), z2 rfl]
    · subst q
      obtain ⟨x1, x2, x3, x4, x5⟩ := z3 rfl
      have q27 : rd (finC a 0 (27 * 0 + s) s) 27 0 1 = rd m1 27 0 1 := by rw [r4 27 _ _ (by omega) (by omega), r3 27 _ _ (by omega), r2 27 _ _ (by omega)]
      have q28 : ∀ z, rd (finC a 0 (27 * 0 + s) s) 28 0 z = rd m1 28 0 z := fun z => by rw [r4 28 _ _ (by omega) (by omega), r3 28 _ _ (by omega), r2 28 _ _ (by omega)]
      have e58 : rd e6m 40 0 58 = rd m 40 0 58 := by rw [t6 40 58 (by omega), t2 40 58 (by omega) (by omega)]
      have e50 : rd e6m 40 0 50 = 0 := by rw [t6 40 50 (by omega), t2 40 50 (by omega) (by omega)]; exact z1
      have e93 : ∀ (k : Nat) z, 93 ≤ k → k ≤ 98 → rd e6m k 0 z = rd m k 0 z := fun k z k0 k1 => by rw [t6 k z (by omega), t2 k z (by omega) (by omega)]
      have kf1 : m1 = keepC a 0 (27 * 0 + s) s (rd a 26 0 8) (finQ a 0 (27 * 0 + s) s) f U := by rw [← hm1]; unfold fin1; rw [hG, hf, hU]
      refine ⟨fun g g0 g1 => ?_, fun s' g0 g1 => ?_, ?_, ?_, fun d q0 q1 => ?_⟩
      · rw [ra 32 _ _ (by omega) (by omega) (by omega), rm 77 _ (by omega) (by omega) (by omega) (by omega)]; exact x1 g g0 g1
      · rw [ra 33 _ _ (by omega) (by omega) (by omega), ra 34 _ _ (by omega) (by omega) (by omega), rm 78 _ (by omega) (by omega) (by omega) (by omega), rm 79 _ (by omega) (by omega) (by omega) (by omega)]; exact x2 s' g0 g1
      all_goals by_cases hc : rd m 40 0 58 < 100
      · obtain ⟨k1, -⟩ := keep_rd a (27 * 0 + s) s (rd a 26 0 8) (finQ a 0 (27 * 0 + s) s) f U (by omega) (by omega)
        obtain ⟨l1, -⟩ := d7_rd e6m s n u w (dQ m s n w) f (dA m s n w) (by omega) (by omega)
        rw [q27, kf1, k1, hm', rd_st_ne (by omega)]
        unfold d8
        rw [pif_t ⟨e50, by omega⟩, l1, e58, x3]
      · rw [q27, kf1, hm', rd_st_ne (by omega)]
        unfold d8 keepC
        rw [pif_f (by omega), pif_f (by omega), e58, x3]
      · obtain ⟨l1, -⟩ := d7_rd e6m s n u w (dQ m s n w) f (dA m s n w) (by omega) (by omega)
        rw [hm', rd_st_ne (by omega)]
        unfold d8
        rw [pif_t ⟨e50, by omega⟩, l1, e58]
        omega
      · rw [hm', rd_st_ne (by omega)]
        unfold d8
        rw [pif_f (by omega), e58]
        exact x4
      · obtain ⟨-, k2, k3, k4, k5, k6, k7, k8, k9⟩ := keep_rd a (27 * 0 + s) s (rd a 26 0 8) (finQ a 0 (27 * 0 + s) s) f U (by omega) (by omega)
        obtain ⟨l1, l2, l3, l4, l5, l6, l7, l8⟩ := d7_rd e6m s n u w (dQ m s n w) f (dA m s n w) (by omega) (by omega)
        rw [← kf1] at k2 k3 k4 k5 k6 k7 k8 k9
        have hm8 : donC m s n u = st (d7 e6m s n u w (dQ m s n w) f (dA m s n w)) 80 0 s (wr (-1)) := by rw [hm']; unfold d8; rw [pif_t ⟨e50, by omega⟩]
        have n25 : rd (donC m s n u) 40 0 25 = rd m 40 0 25 := rm 40 25 (by omega) (by omega) (by omega) (by omega)
        have nk : ∀ (k : Nat) z, 93 ≤ k → k ≤ 98 → rd (donC m s n u) k 0 z = rd (d7 e6m s n u w (dQ m s n w) f (dA m s n w)) k 0 z := fun k z h h' => by rw [hm8, rd_st_ne (by omega)]
        have q1' : d < rd m 40 0 58 + 1 := by rw [hm8, rd_st_ne (by omega), l1, e58] at q1; exact q1
        rw [e58] at l2 l3 l4 l5 l6 l7 l8
        rw [x3] at k2 k3 k4 k5 k6 k7 k8 k9
        by_cases ed : d = rd m 40 0 58
        · subst ed
          unfold daR
          rw [q28, q28, q28, q28, q28, q28, q28, k2, k3, k4, k5, k6, k7, k8, n25, nk 93 _ (by omega) (by omega), nk 94 _ (by omega) (by omega), nk 95 _ (by omega) (by omega), nk 96 _ (by omega) (by omega), nk 97 _ (by omega) (by omega), nk 98 _ (by omega) (by omega), l2, l3, l4, l5, l6, l7, hw, hQ.1, hdA, wr_of (z := w) (by omega) (by omega), wr_of (z := 24 * n + u) (by omega) (by omega), show n - (n - U) = U by omega]
          refine ⟨?_, ?_, rfl, rfl, rfl, ?_, rfl, w0, w1, fun c => ?_, by omega, by omega⟩
          · rcases hv with ⟨k, _, c, e⟩ | ⟨k, b, c, e⟩
            · rw [k, if_pos (by omega)]
            · rw [k, if_neg (by omega)]
          · rcases hv with ⟨k, _, c, e⟩ | ⟨k, b, c, e⟩
            · rw [e, if_pos (by omega)]
            · rw [e, if_neg (by omega)]
          · rcases hf01 with rfl | rfl
            · rw [pif_t (p := wr 0 = 0) rfl]
            · rw [pif_f (p := wr 1 = 0) (fun h => absurd h (by decide))]
          · rcases hv with h | h <;> omega
        · refine daR_of (x5 d q0 (by omega)) (fun j j0 j1 => ?_) (fun k k0 k1 => ?_) n25
          · rw [q28, k9 _ (by omega)]
          · rw [nk k _ k0 k1, l8 k d k0 k1 ed, e93 k d k0 k1]
      · have hm8 : donC m s n u = st e6m 80 0 s (wr (-1)) := by rw [hm']; unfold d8; rw [pif_f (by omega)]
        have q1' : d < rd m 40 0 58 := by rw [hm8, rd_st_ne (by omega), e58] at q1; exact q1
        have kf2 : m1 = a := by rw [kf1]; unfold keepC; rw [pif_f (by omega)]
        refine daR_of (x5 d q0 q1') (fun j j0 j1 => by rw [q28, kf2]) (fun k k0 k1 => ?_) (rm 40 25 (by omega) (by omega) (by omega) (by omega))
        rw [hm8, rd_st_ne (by omega)]; exact e93 k d k0 k1
