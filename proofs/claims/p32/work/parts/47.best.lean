/-! ===== bestOrder's range; chances, seeing, light ===== -/
theorem bits_d : ∀ s : Fin 32, ∀ j : Fin 5, ∀ i : Fin 5, ¬ jand (s.val : Int) (jshl 1 (j.val : Int)) = 0 → (jand (jxor (s.val : Int) (jshl 1 (j.val : Int))) (jshl 1 (i.val : Int)) = 0 ↔ (i.val = j.val ∨ jand (s.val : Int) (jshl 1 (i.val : Int)) = 0)) := by decide +kernel
theorem bits_e {s j i : Int} (s0 : 0 ≤ s) (s1 : s < 32) (j0 : 0 ≤ j) (j1 : j < 5) (i0 : 0 ≤ i) (i1 : i < 5) (h : ¬ jand s (jshl 1 j) = 0) : jand (jxor s (jshl 1 j)) (jshl 1 i) = 0 ↔ (i = j ∨ jand s (jshl 1 i) = 0) := by
  have h1 := bits_d ⟨s.toNat, by omega⟩ ⟨j.toNat, by omega⟩ ⟨i.toNat, by omega⟩
  have e1 : ((s.toNat : Nat) : Int) = s := by omega
  have e2 : ((j.toNat : Nat) : Int) = j := by omega
  have e3 : ((i.toNat : Nat) : Int) = i := by omega
  simp only [e1, e2, e3] at h1
  refine (h1 h).trans ⟨fun q => ?_, fun q => ?_⟩
  · rcases q with q | q
    · exact Or.inl (by omega)
    · exact Or.inr q
  · rcases q with q | q
    · exact Or.inl (by omega)
    · exact Or.inr q
theorem bits_0 : ∀ j : Fin 5, jand 0 (jshl 1 (j.val : Int)) = 0 := by decide +kernel
theorem mfL_z (m : Mm) (s : Int) : ∀ (q : Nat) (j z : Int), mfL m s q j z = z + mfL m s q j 0
  | 0, _, z => (Int.add_zero z).symm
  | q + 1, j, z => by
    show mfL m s q (j + 1) (pif _ z (z + mfV m j)) = z + mfL m s q (j + 1) (pif _ 0 (0 + mfV m j))
    by_cases h : jand s (jshl 1 j) = 0
    · rw [pif_t h, pif_t h]; exact mfL_z m s q (j + 1) z
    · rw [pif_f h, pif_f h, mfL_z m s q (j + 1) (z + mfV m j), mfL_z m s q (j + 1) (0 + mfV m j)]; omega
theorem mfL_0 (m : Mm) : ∀ (q : Nat) (j : Int), 0 ≤ j → j + q ≤ 5 → mfL m 0 q j 0 = 0
  | 0, _, _, _ => rfl
  | q + 1, j, j0, hj => by
    show mfL m 0 q (j + 1) (pif _ 0 (0 + mfV m j)) = 0
    have h := bits_0 ⟨j.toNat, by omega⟩
    simp only [show ((j.toNat : Nat) : Int) = j by omega] at h
    rw [pif_t h]
    exact mfL_0 m q (j + 1) (by omega) (by omega)
theorem mfL_c {m m' : Mm} (h : ∀ j, mfV m' j = mfV m j) (s : Int) : ∀ (q : Nat) (j z : Int), mfL m' s q j z = mfL m s q j z
  | 0, _, _ => rfl
  | q + 1, j, z => by
    show mfL m' s q (j + 1) (pif _ z (z + mfV m' j)) = mfL m s q (j + 1) (pif _ z (z + mfV m j))
    rw [h, mfL_c h s q]
/-- without one of its targets a set fills so much less -/
theorem mfL_x (m : Mm) {s v : Int} (s0 : 0 ≤ s) (s1 : s < 32) (v0 : 0 ≤ v) (v1 : v < 5) (hb : ¬ jand s (jshl 1 v) = 0) : ∀ (q : Nat) (j : Int), 0 ≤ j → j + q ≤ 5 → mfL m s q j 0 = mfL m (jxor s (jshl 1 v)) q j 0 + (if j ≤ v ∧ v < j + q then mfV m v else 0)
  | 0, j, _, _ => by rw [if_neg (by omega)]; rfl
  | q + 1, j, j0, hj => by
    show mfL m s q (j + 1) (pif _ 0 (0 + mfV m j)) = mfL m (jxor s (jshl 1 v)) q (j + 1) (pif _ 0 (0 + mfV m j)) + _
    have ih := mfL_x m s0 s1 v0 v1 hb q (j + 1) (by omega) (by omega)
    have hx := bits_e s0 s1 v0 v1 j0 (show j < 5 by omega) hb
    by_cases e : j = v
    · have hj1 : ¬ jand s (jshl 1 j) = 0 := by rw [e]; exact hb
      rw [pif_f hj1, pif_t (hx.mpr (Or.inl e)), mfL_z m s q (j + 1) (0 + mfV m j), ih, if_neg (by omega), if_pos (by omega), e]
      omega
    · have e2 : (if j + 1 ≤ v ∧ v < j + 1 + (q : Int) then mfV m v else 0) = (if j ≤ v ∧ v < j + ((q + 1 : Nat) : Int) then mfV m v else 0) := by
        by_cases c : j + 1 ≤ v ∧ v < j + 1 + (q : Int)
        · rw [if_pos c, if_pos (by omega)]
        · rw [if_neg c, if_neg (by omega)]
      rw [e2] at ih
      by_cases h : jand s (jshl 1 j) = 0
      · rw [pif_t h, pif_t (hx.mpr (Or.inr h))]; exact ih
      · rw [pif_f h, pif_f (fun c => (hx.mp c).elim e h), mfL_z m s q (j + 1) (0 + mfV m j), mfL_z m (jxor s (jshl 1 v)) q (j + 1) (0 + mfV m j), ih]; omega
/-- every set's end is behind what it fills -/
def EO (m : Mm) (k s : Int) : Prop := ∀ z, 0 ≤ z → z < s → rd m 4 0 z = -1 ∨ mfL m z k.toNat 0 0 ≤ rd m 4 0 z
theorem fb_ge (m : Mm) (a i n u : Int) : fbC m a i n u = -1 ∨ u ≤ fbC m a i n u := by
  unfold fbC
  rcases fup_range (fun v => suitC m 18 a i (n * 24 + v) (rd m 18 a 3)) (24 - u).toNat u with h | h
  · exact Or.inl h
  · exact Or.inr h.1
theorem mfE_o {m : Mm} {a n k s : Int} (hE : EO m k s) (k0 : 0 ≤ k) (k1 : k ≤ 5) (s0 : 0 ≤ s) (s1 : s < 32) : ∀ (q : Nat) (j e : Int), 0 ≤ j → j + q = k → (e = -1 ∨ mfL m s k.toNat 0 0 ≤ e) → (mfE m a n s q j e = -1 ∨ mfL m s k.toNat 0 0 ≤ mfE m a n s q j e) := by
  intro q
  induction q with
  | zero => intro j e _ _ he; exact he
  | succ q ih =>
    intro j e j0 hj he
    unfold mfE
    by_cases hb : jand s (jshl 1 j) = 0
    · rw [pif_t hb]; exact ih (j + 1) e (by omega) (by omega) he
    · rw [pif_f hb]
      by_cases hc : ¬ mfB m a n s j = -1 ∧ (e = -1 ∨ mfB m a n s j + mfV m j < e)
      · rw [pif_t hc]
        refine ih (j + 1) _ (by omega) (by omega) (Or.inr ?_)
        obtain ⟨x0, x1⟩ := bits_x s0 s1 j0 (by omega) hb
        have hx := mfL_x m s0 s1 j0 (by omega) hb k.toNat 0 (Int.le_refl _) (by omega)
        rw [if_pos (by omega)] at hx
        have h9 := hc.1
        unfold mfB at h9 ⊢
        by_cases q1 : rd m 4 0 (jxor s (jshl 1 j)) = -1
        · rw [pif_t q1] at h9; exact absurd rfl h9
        · rw [pif_f q1] at h9 ⊢
          have h1 := (hE _ x0 x1).resolve_left q1
          have h2 := (fb_ge m (rd m 3 0 j) a n (rd m 4 0 (jxor s (jshl 1 j)))).resolve_left h9
          omega
      · rw [pif_f hc]; exact ih (j + 1) e (by omega) (by omega) he
theorem mfR_r {a n k : Int} (n0 : 0 ≤ n) (k0 : 0 ≤ k) (k1 : k ≤ 5) : ∀ (q : Nat) (s : Int) (m : Mm) (r : Int), 1 ≤ s → s + q ≤ 32 → mfO m k s → EO m k s → 0 ≤ r → r ≤ 24 → 0 ≤ mfR a n k q s m r ∧ mfR a n k q s m r ≤ 24
  | 0, _, _, r, _, _, _, _, r0, r1 => ⟨r0, r1⟩
  | q + 1, s, m, r, s0, hs, hO, hE, r0, r1 => by
    show 0 ≤ mfR a n k q (s + 1) (st m 4 0 s (wr (mfE m a n s k.toNat 0 (-1)))) (pif _ _ r) ∧ mfR a n k q (s + 1) (st m 4 0 s (wr (mfE m a n s k.toNat 0 (-1)))) (pif _ _ r) ≤ 24
    have hr := mfE_r (a := a) hO n0 k1 (by omega) (by omega) k.toNat 0 (-1) (Int.le_refl _) (by omega) (Int.le_refl _) (by decide)
    have ho := mfE_o (a := a) (n := n) hE k0 k1 (by omega) (by omega) k.toNat 0 (-1) (Int.le_refl _) (by omega) (Or.inl rfl)
    have hl := mfL_r hO k.toNat 0 0 (Int.le_refl _) (by omega) (Int.le_refl _) (by omega)
    generalize mfE m a n s k.toNat 0 (-1) = e at *
    have ew : wr e = e := wr_of (by omega) (by omega)
    have r4 : ∀ z, rd (st m 4 0 s (wr e)) 4 0 z = if z = s then e else rd m 4 0 z := fun z => by
      rw [rd_st, wr_wr, ew]
      by_cases c : z = s
      · rw [if_pos ⟨rfl, rfl, c⟩, if_pos c]
      · rw [if_neg (fun q => c q.2.2), if_neg c]
    have ro : ∀ (k9 : Nat) i j, k9 ≠ 4 → rd (st m 4 0 s (wr e)) k9 i j = rd m k9 i j := fun k9 i j h => rd_st_ne h
    have eV : ∀ j, mfV (st m 4 0 s (wr e)) j = mfV m j := fun j => by
      unfold mfV
      rw [ro 3 _ _ (by decide), ro 18 _ _ (by decide)]
    refine mfR_r n0 k0 k1 q (s + 1) _ _ (by omega) (by omega) ⟨IA_of4 hO.1 (fun k9 i j h => ro _ _ _ (by omega)), fun j j0 j1 => by rw [ro _ _ _ (by decide)]; exact hO.2.1 j j0 j1, fun z z0 z1 => ?_⟩ (fun z z0 z1 => ?_) ?_ ?_
    · rw [r4]
      by_cases c : z = s
      · rw [if_pos c]; exact hr
      · rw [if_neg c]; exact hO.2.2 z z0 (by omega)
    · rw [r4, mfL_c eV]
      by_cases c : z = s
      · rw [if_pos c, c]; exact ho
      · rw [if_neg c]; exact hE z z0 (by omega)
    · by_cases c : ¬ e = -1 ∧ r < mfL m s k.toNat 0 0
      · rw [pif_t c]; exact hl.1
      · rw [pif_f c]; exact r0
    · by_cases c : ¬ e = -1 ∧ r < mfL m s k.toNat 0 0
      · rw [pif_t c]
        have := ho.resolve_left c.1
        omega
      · rw [pif_f c]; exact r1
theorem fw_ok (a b : Int) : ∀ (n : Nat) (i k : Int) (m : Mm), 0 ≤ i → i + n ≤ 24 → 0 ≤ k → k ≤ 5 → (∀ j, 0 ≤ j → j < k → 0 ≤ rd m 3 0 j ∧ rd m 3 0 j < 24) → (0 ≤ fwK a b n i k m ∧ fwK a b n i k m ≤ 5) ∧ (∀ j, 0 ≤ j → j < fwK a b n i k m → 0 ≤ rd (fwM a b n i k m) 3 0 j ∧ rd (fwM a b n i k m) 3 0 j < 24) ∧ ∀ (k9 : Nat) i9 j9, k9 ≠ 3 → rd (fwM a b n i k m) k9 i9 j9 = rd m k9 i9 j9
  | 0, _, k, m, _, _, k0, k1, h => ⟨⟨k0, k1⟩, h, fun _ _ _ _ => rfl⟩
  | n + 1, i, k, m, i0, hi, k0, k1, h => by
    unfold fwK fwM
    by_cases c : k < 5
    · rw [pif_t c, pif_t c]
      by_cases c2 : wantC m (30 + 0) i b ∧ ¬ fbC m i a b 0 = -1
      · rw [pif_t c2, pif_t c2]
        have r3 : ∀ j, rd (st m 3 0 k (wr i)) 3 0 j = if j = k then i else rd m 3 0 j := fun j => by
          rw [rd_st, wr_wr, wr_of (z := i) (by omega) (by omega)]
          by_cases e : j = k
          · rw [if_pos ⟨rfl, rfl, e⟩, if_pos e]
          · rw [if_neg (fun q => e q.2.2), if_neg e]
        obtain ⟨g1, g2, g3⟩ := fw_ok a b n (i + 1) (k + 1) (st m 3 0 k (wr i)) (by omega) (by omega) (by omega) (by omega) (fun j j0 j1 => by
          rw [r3]
          by_cases e : j = k
          · rw [if_pos e]; omega
          · rw [if_neg e]; exact h j j0 (by omega))
        exact ⟨g1, g2, fun k9 i9 j9 e => (g3 k9 i9 j9 e).trans (rd_st_ne e)⟩
      · rw [pif_f c2, pif_f c2]
        exact fw_ok a b n (i + 1) k m (by omega) (by omega) k0 k1 h
    · rw [pif_f c, pif_f c]
      exact ⟨⟨k0, k1⟩, h, fun _ _ _ _ => rfl⟩
theorem mfM_o (s n k : Int) (k9 : Nat) (i9 j9 : Int) (h : k9 ≠ 4) : ∀ (q : Nat) (z : Int) (m : Mm), rd (mfM s n k q z m) k9 i9 j9 = rd m k9 i9 j9
  | 0, _, _ => rfl
  | q + 1, z, m => (mfM_o s n k k9 i9 j9 h q (z + 1) _).trans (rd_st_ne h)
theorem bst_r {m : Mm} (hI : IA m) {a b : Int} (b0 : 0 ≤ b) : (0 ≤ bstR m a b ∧ bstR m a b ≤ 24) ∧ ∀ (k : Nat) i j, k ≠ 3 → k ≠ 4 → rd (bstM m a b) k i j = rd m k i j := by
  have h7 := hI.2.2.2.2.1
  obtain ⟨⟨g0, g1⟩, g2, g3⟩ := fw_ok a b (rd m 5 0 7).toNat 0 0 m (Int.le_refl _) (by omega) (Int.le_refl _) (by decide) (fun j j0 j1 => absurd j1 (by omega))
  unfold bstR bstM
  generalize fwK a b (rd m 5 0 7).toNat 0 0 m = K at *
  generalize fwM a b (rd m 5 0 7).toNat 0 0 m = M at *
  have hs := shl_r g0 g1
  refine ⟨?_, fun k i j e e' => ?_⟩
  · unfold mstR
    have r4 : ∀ z, rd (st M 4 0 0 (wr 0)) 4 0 z = if z = 0 then 0 else rd M 4 0 z := fun z => by
      rw [rd_st]
      by_cases c : z = 0
      · rw [if_pos ⟨rfl, rfl, c⟩, if_pos c]; rfl
      · rw [if_neg (fun q => c q.2.2), if_neg c]
    refine mfR_r b0 g0 g1 (jshl 1 K - 1).toNat 1 _ 0 (Int.le_refl _) (by omega) ⟨IA_of4 hI (fun k9 i j h => by rw [rd_st_ne (by omega)]; exact g3 _ _ _ (by omega)), fun j j0 j1 => by rw [rd_st_ne (by decide)]; exact g2 j j0 j1, fun z z0 z1 => by rw [r4, if_pos (by omega)]; decide⟩ (fun z z0 z1 => ?_) (Int.le_refl _) (by decide)
    have ez : z = 0 := by omega
    rw [r4, if_pos ez, ez, mfL_0 _ _ _ (Int.le_refl _) (by omega)]
    exact Or.inr (Int.le_refl _)
  · unfold mstM
    rw [mfM_o _ _ _ _ _ _ e', rd_st_ne e', g3 _ _ _ e]
theorem JV_best {a : Mm} (h : JV a) {s n : Int} (n0 : 0 ≤ n) : JV (bstM a s n) ∧ (∀ j, rd (bstM a s n) 5 0 j = rd a 5 0 j) ∧ rd (bstM a s n) 26 0 8 = rd a 26 0 8 := by
  obtain ⟨-, ro⟩ := bst_r (a := s) h.1.1.1 n0
  exact ⟨JV_same h (fun k i j e => ro k i j (by omega) (by omega)), fun j => ro _ _ _ (by decide) (by decide), ro _ _ _ (by decide) (by decide)⟩
theorem cntT_nn (P : Int → Prop) : ∀ (n : Nat) (c s : Int), 0 ≤ s → s ≤ cntT P n c s
  | 0, _, s, _ => Int.le_refl s
  | n + 1, c, s, h => by
    show s ≤ cntT P n (c + 1) (pif (P c) (s + 1) s)
    by_cases q : P c
    · rw [pif_t q]
      have := cntT_nn P n (c + 1) (s + 1) (by omega)
      omega
    · rw [pif_f q]; exact cntT_nn P n (c + 1) s h
theorem cntT_le (P : Int → Prop) : ∀ (n : Nat) (c s : Int), cntT P n c s ≤ s + n
  | 0, _, s => by show s ≤ _; omega
  | n + 1, c, s => by
    show cntT P n (c + 1) (pif (P c) (s + 1) s) ≤ _
    have := cntT_le P n (c + 1) (pif (P c) (s + 1) s)
    by_cases q : P c
    · rw [pif_t q] at this ⊢; omega
    · rw [pif_f q] at this ⊢; omega
theorem chan_r (a : Mm) (t s n : Int) : 0 ≤ chanC a t s n ∧ chanC a t s n ≤ 24 := by
  have h1 := cntT_nn (fun v => suitC a 18 t s (n * 24 + v) (rd a 18 t 3)) 24 0 0 (Int.le_refl _)
  have h2 := cntT_le (fun v => suitC a 18 t s (n * 24 + v) (rd a 18 t 3)) 24 0 0
  unfold chanC
  omega
theorem seen_r {a : Mm} (h : PX a) {s t : Int} (s0 : 0 ≤ s) (s1 : s < 3) (t0 : 0 ≤ t) (t1 : t < 720) : 0 ≤ seenC a s t ∧ seenC a s t ≤ 50 := by
  have := h.2.2.1 s t s0 s1 t0 t1
  unfold seenC
  split
  · exact this
  · decide
theorem moon_r {a : Mm} (h : PX a) {n : Int} (n0 : 0 ≤ n) (n1 : n < 30) : 0 ≤ moonC a n ∧ moonC a n ≤ 100 := by
  unfold moonC
  rw [h.2.2.2, Int.add_zero, jrem_of n0 (by omega) (by decide) (by decide), Int.emod_eq_of_lt n0 n1]
  unfold jabs
  rw [wr_of (z := 15 - n) (by omega) (by omega)]
  split
  · rw [jdiv_of (by omega) (by omega) (by decide) (by decide)]; omega
  · rw [jdiv_of (by omega) (by omega) (by decide) (by decide)]; omega
