/-! ===== class and model side by side, IX: a visit ends ===== -/
theorem rd_ag1 (mm : Mm) (b t n : Int) (k : Nat) (i j : Int) (h : k ≠ 23) : rd (ag1 mm b t n) k i j = rd mm k i j := by
  unfold ag1
  by_cases q : phC mm b t n = -1
  · rw [pif_t q]
  · rw [pif_f q]; exact rd_st_ne h
theorem add_21 (mm : Mm) (b t n z : Int) : rd (addC mm b t n) 21 b z = if z = rd mm 18 t 9 then wr (rd mm 21 b (rd mm 18 t 9) + 1) else rd mm 21 b z := by
  unfold addC ag3
  rw [rd_st_ne (by decide)]
  unfold ag2
  rw [rd_st, rd_ag1 _ _ _ _ _ _ _ (by decide), rd_ag1 _ _ _ _ _ _ _ (by decide), rd_ag1 _ _ _ _ _ _ _ (by decide), wr_wr]
  by_cases e : z = rd mm 18 t 9
  · rw [if_pos ⟨rfl, rfl, e⟩, if_pos e]
  · rw [if_neg (fun c => e c.2.2), if_neg e]
theorem add_22 (mm : Mm) (b t n z : Int) : rd (addC mm b t n) 22 b z = if z = rd mm 18 t 9 then wr (jor (rd mm 22 b (rd mm 18 t 9)) (jshl 1 n)) else rd mm 22 b z := by
  unfold addC ag3
  have e1 : ∀ (k : Nat) (i j : Int), k ≠ 21 → k ≠ 23 → rd (ag2 (ag1 mm b t n) b t) k i j = rd mm k i j := fun k i j h h2 => by unfold ag2; rw [rd_st_ne h, rd_ag1 _ _ _ _ _ _ _ h2]
  rw [rd_st, e1 _ _ _ (by decide) (by decide), e1 _ _ _ (by decide) (by decide), e1 _ _ _ (by decide) (by decide), wr_wr]
  by_cases e : z = rd mm 18 t 9
  · rw [if_pos ⟨rfl, rfl, e⟩, if_pos e]
  · rw [if_neg (fun c => e c.2.2), if_neg e]
theorem add_23 (mm : Mm) (b t n z : Int) : rd (addC mm b t n) 23 b z = pif (phC mm b t n = -1) (rd mm 23 b z) (if z = rd mm 18 t 9 then wr (jor (rd mm 23 b (rd mm 18 t 9)) (jshl 1 (phC mm b t n))) else rd mm 23 b z) := by
  unfold addC ag3
  rw [rd_st_ne (by decide)]
  unfold ag2
  rw [rd_st_ne (by decide)]
  unfold ag1
  by_cases q : phC mm b t n = -1
  · rw [pif_t q, pif_t q]
  · rw [pif_f q, pif_f q, rd_st, wr_wr]
    by_cases e : z = rd mm 18 t 9
    · rw [if_pos ⟨rfl, rfl, e⟩, if_pos e]
    · rw [if_neg (fun c => e c.2.2), if_neg e]
theorem phC_of {m m' : Mm} (b t n : Int) (h18 : ∀ i j, rd m' 18 i j = rd m 18 i j) (h23 : ∀ i j, rd m' 23 i j = rd m 23 i j) : phC m' b t n = phC m b t n := by
  unfold phC opC phP
  simp only [h18, h23]
theorem d6_72 (m : Mm) (w n f z : Int) : rd (d6 m w n f) 72 0 z = pif (23 < w ∨ f = 0) (rd m 72 0 z) (if z = w then wr (rd m 72 0 w + 1) else rd m 72 0 z) := by
  unfold d6
  by_cases q : 23 < w
  · rw [pif_t q, pif_t (Or.inl q)]; exact rd_st_ne (by decide)
  · rw [pif_f q]
    by_cases q2 : f = 0
    · rw [pif_t q2, pif_t (Or.inr q2)]
    · rw [pif_f q2, pif_f (by omega)]
      unfold d5 d4 d3
      rw [rd_st_ne (by decide), rd_st, rd_st_ne (by decide), rd_st_ne (by decide), wr_wr]
      by_cases e : z = w
      · rw [if_pos ⟨rfl, rfl, e⟩, if_pos e]
      · rw [if_neg (fun c => e c.2.2), if_neg e]
theorem d6_74 (m : Mm) (w n f z : Int) : rd (d6 m w n f) 74 0 z = pif (23 < w ∨ f = 0) (rd m 74 0 z) (if z = w then wr (jor (rd m 74 0 w) (jshl 1 n)) else rd m 74 0 z) := by
  unfold d6
  by_cases q : 23 < w
  · rw [pif_t q, pif_t (Or.inl q)]; exact rd_st_ne (by decide)
  · rw [pif_f q]
    by_cases q2 : f = 0
    · rw [pif_t q2, pif_t (Or.inr q2)]
    · rw [pif_f q2, pif_f (by omega)]
      unfold d5 d4 d3
      rw [rd_st, wr_wr, rd_st_ne (by decide), rd_st_ne (by decide), rd_st_ne (by decide), rd_st_ne (by decide)]
      by_cases e : z = w
      · rw [if_pos ⟨rfl, rfl, e⟩, if_pos e]
      · rw [if_neg (fun c => e c.2.2), if_neg e]
theorem d6_73 (m : Mm) (w n f z : Int) : rd (d6 m w n f) 73 0 z = pif (23 < w ∨ f = 0) (rd m 73 0 z) (if z = w then wr (jor (rd m 73 0 w) (pif (0 ≤ rd m 63 0 w ∧ ¬ trnC m w n = -1) (jshl 1 (trnC m w n)) 0)) else rd m 73 0 z) := by
  unfold d6
  by_cases q : 23 < w
  · rw [pif_t q, pif_t (Or.inl q)]; exact rd_st_ne (by decide)
  · rw [pif_f q]
    by_cases q2 : f = 0
    · rw [pif_t q2, pif_t (Or.inr q2)]
    · rw [pif_f q2, pif_f (by omega)]
      unfold d5 d4 d3
      rw [rd_st_ne (by decide), rd_st_ne (by decide), rd_st, wr_wr]
      by_cases e : z = w
      · rw [if_pos ⟨rfl, rfl, e⟩, if_pos e]
      · rw [if_neg (fun c => e c.2.2), if_neg e]
theorem d6_75 (m : Mm) (w n f z : Int) : rd (d6 m w n f) 75 0 z = pif (23 < w) (if z = w - 24 then wr n else rd m 75 0 z) (rd m 75 0 z) := by
  unfold d6
  by_cases q : 23 < w
  · rw [pif_t q, pif_t q, rd_st, wr_wr]
    by_cases e : z = w - 24
    · rw [if_pos ⟨rfl, rfl, e⟩, if_pos e]
    · rw [if_neg (fun c => e c.2.2), if_neg e]
  · rw [pif_f q, pif_f q]
    by_cases q2 : f = 0
    · rw [pif_t q2]
    · rw [pif_f q2]
      unfold d5 d4 d3
      rw [rd_st_ne (by decide), rd_st_ne (by decide), rd_st_ne (by decide)]
theorem trnC_of {m m' : Mm} (w n : Int) (h : ∀ (k : Nat) (j : Int), 62 ≤ k → k ≤ 73 → rd m' k 0 j = rd m k 0 j) : trnC m' w n = trnC m w n := by
  unfold trnC trnP
  simp only [h 62 _ (by decide) (by decide), h 63 _ (by decide) (by decide), h 64 _ (by decide) (by decide), h 65 _ (by decide) (by decide), h 73 _ (by decide) (by decide)]
theorem jor_0 (x : Int) : wr (jor x 0) = wr x := by
  unfold jor
  rw [wr_toInt, show I 0 = 0 from rfl]
  rw [show I x ||| 0 = I x by simp, toInt_I]
/-- the archive takes one more: the class's -/
theorem keep_rd (a : Mm) (v s t q g u : Int) (hc : rd a 27 0 1 < 100) (c0 : 0 ≤ rd a 27 0 1) : rd (keepC a 0 v s t q g u) 27 0 1 = rd a 27 0 1 + 1 ∧
    rd (keepC a 0 v s t q g u) 28 0 (rd a 27 0 1 * 7) = rd a 31 v 0 ∧ rd (keepC a 0 v s t q g u) 28 0 (rd a 27 0 1 * 7 + 1) = rd a 31 v 1 ∧ rd (keepC a 0 v s t q g u) 28 0 (rd a 27 0 1 * 7 + 2) = wr s ∧ rd (keepC a 0 v s t q g u) 28 0 (rd a 27 0 1 * 7 + 3) = wr t ∧ rd (keepC a 0 v s t q g u) 28 0 (rd a 27 0 1 * 7 + 4) = wr q ∧ rd (keepC a 0 v s t q g u) 28 0 (rd a 27 0 1 * 7 + 5) = wr (pif (wr g = 0) 0 1) ∧ rd (keepC a 0 v s t q g u) 28 0 (rd a 27 0 1 * 7 + 6) = wr u ∧
    (∀ z, z < rd a 27 0 1 * 7 → rd (keepC a 0 v s t q g u) 28 0 z = rd a 28 0 z) := by
  unfold keepC kpn kpC kp2 kp1
  rw [pif_t hc]
  generalize hd : rd a 27 0 1 = c at *
  refine ⟨?_, ?_, ?_, ?_, ?_, ?_, ?_, ?_, fun z hz => ?_⟩
  · rw [rd_st, if_pos ⟨rfl, rfl, rfl⟩, wr_wr]
    rw [rd_st_ne (by decide), rd_st_ne (by decide), rd_st_ne (by decide), rd_st_ne (by decide), rd_st_ne (by decide), rd_st_ne (by decide), rd_st_ne (by decide), hd, wr_of (by omega) (by omega)]
  · rw [rd_st_ne (by decide), rd_st, if_neg (by omega), rd_st, if_neg (by omega), rd_st, if_neg (by omega), rd_st, if_neg (by omega), rd_st, if_neg (by omega), rd_st, if_neg (by omega), rd_st, if_pos ⟨rfl, rfl, rfl⟩, wr_wr, wr_rd]
  · rw [rd_st_ne (by decide), rd_st, if_neg (by omega), rd_st, if_neg (by omega), rd_st, if_neg (by omega), rd_st, if_neg (by omega), rd_st, if_neg (by omega), rd_st, if_pos ⟨rfl, rfl, rfl⟩, wr_wr, wr_rd, rd_st_ne (by decide)]
  · rw [rd_st_ne (by decide), rd_st, if_neg (by omega), rd_st, if_neg (by omega), rd_st, if_neg (by omega), rd_st, if_neg (by omega), rd_st, if_pos ⟨rfl, rfl, rfl⟩, wr_wr]
  · rw [rd_st_ne (by decide), rd_st, if_neg (by omega), rd_st, if_neg (by omega), rd_st, if_neg (by omega), rd_st, if_pos ⟨rfl, rfl, rfl⟩, wr_wr]
  · rw [rd_st_ne (by decide), rd_st, if_neg (by omega), rd_st, if_neg (by omega), rd_st, if_pos ⟨rfl, rfl, rfl⟩, wr_wr]
  · rw [rd_st_ne (by decide), rd_st, if_neg (by omega), rd_st, if_pos ⟨rfl, rfl, rfl⟩, wr_wr]
  · rw [rd_st_ne (by decide), rd_st, if_pos ⟨rfl, rfl, rfl⟩, wr_wr]
  · rw [rd_st_ne (by decide), rd_st, if_neg (by omega), rd_st, if_neg (by omega), rd_st, if_neg (by omega), rd_st, if_neg (by omega), rd_st, if_neg (by omega), rd_st, if_neg (by omega), rd_st, if_neg (by omega)]
/-- .. and the model's -/
theorem d7_rd (m : Mm) (s n u w q f e : Int) (hc : rd m 40 0 58 < 100) (c0 : 0 ≤ rd m 40 0 58) : rd (d7 m s n u w q f e) 40 0 58 = rd m 40 0 58 + 1 ∧
    rd (d7 m s n u w q f e) 93 0 (rd m 40 0 58) = wr w ∧ rd (d7 m s n u w q f e) 94 0 (rd m 40 0 58) = wr s ∧ rd (d7 m s n u w q f e) 95 0 (rd m 40 0 58) = wr (24 * n + u) ∧ rd (d7 m s n u w q f e) 96 0 (rd m 40 0 58) = wr q ∧ rd (d7 m s n u w q f e) 97 0 (rd m 40 0 58) = wr f ∧ rd (d7 m s n u w q f e) 98 0 (rd m 40 0 58) = wr (n - e) ∧
    (∀ (k : Nat) z, 93 ≤ k → k ≤ 98 → z ≠ rd m 40 0 58 → rd (d7 m s n u w q f e) k 0 z = rd m k 0 z) := by
  unfold d7
  generalize hd : rd m 40 0 58 = c at *
  refine ⟨?_, ?_, ?_, ?_, ?_, ?_, ?_, fun k z k0 k1 hz => ?_⟩
  · rw [rd_st, if_pos ⟨rfl, rfl, rfl⟩, wr_wr, wr_of (by omega) (by omega)]
  · rw [rd_st_ne (by decide), rd_st_ne (by decide), rd_st_ne (by decide), rd_st_ne (by decide), rd_st_ne (by decide), rd_st_ne (by decide), rd_st, if_pos ⟨rfl, rfl, rfl⟩, wr_wr]
  · rw [rd_st_ne (by decide), rd_st_ne (by decide), rd_st_ne (by decide), rd_st_ne (by decide), rd_st_ne (by decide), rd_st, if_pos ⟨rfl, rfl, rfl⟩, wr_wr]
  · rw [rd_st_ne (by decide), rd_st_ne (by decide), rd_st_ne (by decide), rd_st_ne (by decide), rd_st, if_pos ⟨rfl, rfl, rfl⟩, wr_wr]
  · rw [rd_st_ne (by decide), rd_st_ne (by decide), rd_st_ne (by decide), rd_st, if_pos ⟨rfl, rfl, rfl⟩, wr_wr]
  · rw [rd_st_ne (by decide), rd_st_ne (by decide), rd_st, if_pos ⟨rfl, rfl, rfl⟩, wr_wr]
  · rw [rd_st_ne (by decide), rd_st, if_pos ⟨rfl, rfl, rfl⟩, wr_wr]
  · rw [rd_st_ne (by omega), rd_st, if_neg (fun c => hz c.2.2), rd_st, if_neg (fun c => hz c.2.2), rd_st, if_neg (fun c => hz c.2.2), rd_st, if_neg (fun c => hz c.2.2), rd_st, if_neg (fun c => hz c.2.2), rd_st, if_neg (fun c => hz c.2.2)]
