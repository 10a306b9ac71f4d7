/-! ===== class and model side by side, VII: a visit is taken up again ===== -/
theorem reB_eq {a m : Mm} {x s9 s n u lo : Int} (hP : PR a m) (hC : CRv lo s9 a m x) (hw : rd a 26 x 8 = 24 * n + u) (s0 : 0 ≤ s) (s1 : s < 3) (n0 : 0 ≤ n) (n1 : n < 30) (u0 : 0 ≤ u) (u1 : u < 24) : reB a x s = rsmR m s n u ∧ (reB a x s = -1 ∨ (0 ≤ reB a x s ∧ reB a x s < rd m 40 0 25 ∧ 0 < rd m 83 0 (reB a x s))) := by
  have hT0 : 0 ≤ rd m 40 0 25 := hP.2.2.2.1.1
  have hT : rd m 40 0 25 ≤ 24 := hP.2.2.2.1.2
  have e7 : rd a 5 0 7 = rd m 40 0 25 := hP.2.1.1.2.1
  have hW : ∀ t, 0 ≤ t → t < rd m 40 0 25 → wR a m x t := fun t t0 t1 => hC.2.2.2.1 t t0 (by omega)
  have loop : ∀ (k : Nat) (t b : Int), 0 ≤ t → t + k ≤ rd m 40 0 25 → (b = -1 ∨ (0 ≤ b ∧ b < rd m 40 0 25 ∧ 0 < rd m 83 0 b)) → ∀ w, srch (fun t b _ => reP a x s t b) (fun _ => 0) k t b w = rsmB m s n u k t b ∧ (rsmB m s n u k t b = -1 ∨ (0 ≤ rsmB m s n u k t b ∧ rsmB m s n u k t b < rd m 40 0 25 ∧ 0 < rd m 83 0 (rsmB m s n u k t b))) := by
    intro k
    induction k with
    | zero => intro t b t0 tk hb w; exact ⟨rfl, hb⟩
    | succ k ih =>
      intro t b t0 tk hb w
      have ht : t < rd m 40 0 25 := by omega
      have hq : reP a x s t b ↔ rsmQ m s n u b t := by
        obtain ⟨⟨ha, -⟩, -⟩ := hP.2.1.2.2.2.1 t t0 ht
        unfold reP rsmQ
        rcases hW t t0 ht with ⟨w1, w2⟩ | ⟨w1, w2, w3, w4, w5, w6, w7, w8⟩
        · constructor
          · intro c; exact absurd w2 c.1
          · intro c; have := c.1; omega
        · rw [w4, w6, w8, ha.2.2.1, hw, sk_suit hP.1 ha s0 s1 n0 n1 u0 u1 (by omega)]
          have hor : (b = -1 ∨ rd m 85 0 t < rd a 31 (27 * x + 3 + b) 4) ↔ (b < 0 ∨ rd m 85 0 t < rd m 85 0 b) := by
            rcases hb with rfl | ⟨b0, b1, b2⟩
            · simp
            · rcases hW b b0 b1 with ⟨v1, v2⟩ | ⟨v1, v2, v3, v4, v5, v6, v7, v8⟩
              · omega
              · rw [v8]; constructor
                · rintro (c | c)
                  · omega
                  · exact Or.inr c
                · rintro (c | c)
                  · omega
                  · exact Or.inr c
          rw [hor]
          constructor
          · rintro ⟨c1, c2, c3⟩; exact ⟨w2, c3, c2⟩
          · rintro ⟨c1, c2, c3⟩; exact ⟨by decide, c3, c2⟩
      unfold srch rsmB
      by_cases q : rsmQ m s n u b t
      · rw [pif_t (hq.mpr q), pif_t q]
        exact ih (t + 1) t (by omega) (by omega) (Or.inr ⟨t0, ht, q.1⟩) 0
      · rw [pif_f (fun c => q (hq.mp c)), pif_f q]
        exact ih (t + 1) b (by omega) (by omega) hb w
  have h := loop (rd m 40 0 25).toNat 0 (-1) (by decide) (by omega) (Or.inl rfl) 0
  unfold reB rsmR
  rw [e7]
  rw [h.1]
  exact ⟨rfl, h.2⟩
theorem resume_step {a m : Mm} {x s n u : Int} (hP : PR a m) (hC : CRv 0 s a m x) (hw : rd a 26 x 8 = 24 * n + u) (s0 : 0 ≤ s) (s1 : s < 3) (n0 : 0 ≤ n) (n1 : n < 30) (u0 : 0 ≤ u) (u1 : u < 24) : CRv 0 s (st2 a x s) (siB m s n u) x := by
  have hidle : rd a 31 (27 * x + s) 0 = 0 ↔ rd m 80 0 s < 0 := (lose_g hP hC.2.2.1).1.symm
  unfold st2 siB
  rcases Int.lt_or_le (rd m 80 0 s) 0 with q | q
  case inr => rw [pif_f (fun c => by have := hidle.mp c; omega), pif_f (by omega)]; exact hC
  rw [pif_t (hidle.mpr q), pif_t q]
  obtain ⟨e1, e2⟩ := reB_eq hP hC hw s0 s1 n0 n1 u0 u1
  have hT : rd m 40 0 25 ≤ 24 := hP.2.2.2.1.2
  unfold resumeC rsmC
  rw [← e1]
  obtain ⟨r, hr⟩ : ∃ r, reB a x s = r := ⟨_, rfl⟩
  rw [hr] at e2 ⊢
  rcases e2 with e2 | ⟨r0, r1, r2⟩
  · rw [pif_t e2, pif_f (by omega)]; exact hC
  rw [pif_f (by omega), pif_t r0]
  obtain ⟨h1, h2, h3, h4, h5, h6⟩ := hC
  rcases h4 r r0 (by omega) with ⟨w1, w2⟩ | ⟨w1, w2, w3, w4, w5, w6, w7, w8⟩
  · omega
  obtain ⟨m', hm'⟩ : ∃ m', st (rs4 (rs3 (mbgC m s r) s r) s r) 83 0 r (wr 0) = m' := ⟨_, rfl⟩
  obtain ⟨a', ha'⟩ : ∃ a', takeC a (27 * x + s) (27 * x + 3 + r) = a' := ⟨_, rfl⟩
  have hne : 27 * x + s ≠ 27 * x + 3 + r := by omega
  have ra : ∀ (k : Nat) (i j : Int), ¬ (k = 31 ∧ (i = 27 * x + s ∨ i = 27 * x + 3 + r)) → rd a' k i j = rd a k i j := fun k i j hk => by rw [← ha']; exact rd_take _ _ _ _ _ _ hk
  have rm : ∀ (k : Nat) (i j : Int), k ≠ 80 ∧ k ≠ 81 ∧ k ≠ 82 ∧ k ≠ 83 → rd m' k i j = rd m k i j := fun k i j hk => by
    rw [← hm', rd_st_ne (by omega)]
    unfold rs4 rs3
    rw [rd_st_ne (by omega), rd_st_ne (by omega)]
    exact rd_mbg _ _ _ _ _ _ (by omega)
  have rmo : ∀ s', s' ≠ s → ∀ k : Nat, k ≠ 83 → rd m' k 0 s' = rd m k 0 s' := fun s' hs k hk => by
    rw [← hm', rd_st_ne hk]
    unfold rs4 rs3
    rw [rd_st, if_neg (fun c => hs c.2.2), rd_st, if_neg (fun c => hs c.2.2)]
    exact rd_mbgo _ _ _ _ hs _
  obtain ⟨f0, f1, f2⟩ := rd_mbgs m s r (wr_of (by omega) (by omega))
  have f83 : rd (mbgC m s r) 83 0 r = rd m 83 0 r := rd_mbg _ _ _ _ _ _ (by decide)
  have f84 : rd (mbgC m s r) 84 0 r = rd m 84 0 r := rd_mbg _ _ _ _ _ _ (by decide)
  have r80 : rd m' 80 0 s = r := by
    rw [← hm', rd_st_ne (by decide)]
    unfold rs4 rs3
    rw [rd_st_ne (by decide), rd_st_ne (by decide), f0]
  have r81 : rd m' 81 0 s = rd m 83 0 r := by
    rw [← hm', rd_st_ne (by decide)]
    unfold rs4 rs3
    rw [rd_st_ne (by decide), rd_st, if_pos ⟨rfl, rfl, rfl⟩, wr_wr, wr_rd, f83]
  have r82 : rd m' 82 0 s = rd m 84 0 r := by
    rw [← hm', rd_st_ne (by decide)]
    unfold rs4 rs3
    rw [rd_st, if_pos ⟨rfl, rfl, rfl⟩, wr_wr, rd_st_ne (by decide), wr_rd, f84]
  have r83 : ∀ t, rd m' 83 0 t = if t = r then 0 else rd m 83 0 t := fun t => by
    rw [← hm', rd_st]
    by_cases e : t = r
    · rw [if_pos ⟨rfl, rfl, e⟩, if_pos e]; rfl
    · rw [if_neg (fun c => e c.2.2), if_neg e]
      unfold rs4 rs3
      rw [rd_st_ne (by decide), rd_st_ne (by decide)]
      exact rd_mbg _ _ _ _ _ _ (by decide)
  rw [hm', ha']
  refine ⟨bkR_of h1 (fun k j k0 k1 => ra k _ j (by omega)) (fun k j k0 k1 => rm k _ j (by omega)), fun s' g0 g1 hs => ?_, ?_, fun t t0 t1 => ?_, dsR_end h5 (by omega) (fun s' hs => rmo s' hs 80 (by decide)), ?_⟩
  · exact vR_of (h2 s' g0 g1 hs) (fun j _ _ => ra 31 _ j (by omega)) (rmo s' hs 80 (by decide)) (rmo s' hs 81 (by decide)) (rmo s' hs 82 (by decide)) (fun t => rm 57 0 t (by decide)) (fun _ g => by rw [rm 75 0 _ (by decide)]; exact g) (rm 40 0 25 (by decide)) (rm 40 0 30 (by decide))
  · right; left
    rw [r80, r81, r82, rm 40 0 25 (by decide), rm 57 0 _ (by decide), ← ha', rd_takeV _ _ _ hne 0 (by decide), rd_takeV _ _ _ hne 1 (by decide), rd_takeV _ _ _ hne 2 (by decide), rd_takeV _ _ _ hne 3 (by decide)]
    exact ⟨⟨r0, r1⟩, w4, w5, w6, w7, by omega, w3⟩
  · unfold wR
    rw [r83, rm 84 0 _ (by decide), rm 85 0 _ (by decide), rm 57 0 _ (by decide), rm 40 0 25 (by decide)]
    by_cases e : t = r
    · subst e
      left
      rw [if_pos rfl, ← ha']
      exact ⟨rfl, rd_takeW _ _ _⟩
    · rw [if_neg e, ra 31 _ _ (by omega), ra 31 _ _ (by omega), ra 31 _ _ (by omega), ra 31 _ _ (by omega), ra 31 _ _ (by omega)]
      exact h4 t t0 t1
  · exact zR_of h6 (fun k j hk => ra k _ j (by omega)) (ra 26 _ 9 (by omega)) (fun k j hk => rm k _ j (by omega))
