/-! ===== what holds of a course, III: data ===== -/
def PX (a : Mm) : Prop := (∀ t, 0 ≤ t → t < rd a 5 0 7 → rd a 18 t 9 = t) ∧ (∀ q, 0 ≤ q → q < 8 → 0 ≤ rd a 17 q 3) ∧ (∀ s t, 0 ≤ s → s < 3 → 0 ≤ t → t < 720 → 0 ≤ rd a 12 s t ∧ rd a 12 s t ≤ 50) ∧ rd a 5 0 5 = 0
def dOK (a : Mm) (x d : Int) : Prop := (rd a 28 x (d * 7) = 1 ∨ rd a 28 x (d * 7) = 2) ∧ (rd a 28 x (d * 7) = 1 → 0 ≤ rd a 28 x (d * 7 + 1) ∧ rd a 28 x (d * 7 + 1) < rd a 5 0 7) ∧ (0 ≤ rd a 28 x (d * 7 + 3) ∧ rd a 28 x (d * 7 + 3) < 720) ∧ (-1 ≤ rd a 28 x (d * 7 + 6) ∧ rd a 28 x (d * 7 + 6) ≤ rd a 28 x (d * 7 + 3) / 24) ∧ 0 ≤ rd a 28 x (d * 7 + 4) ∧ (rd a 28 x (d * 7 + 4) = 0 ∨ rd a 28 x (d * 7 + 4) ≤ 99 - 5 * (rd a 28 x (d * 7 + 3) / 24 - rd a 28 x (d * 7 + 6)))
def gdP (a : Mm) (x t d : Int) : Prop := rd a 28 x (d * 7) = 1 ∧ rd a 28 x (d * 7 + 1) = t ∧ rd a 28 x (d * 7 + 5) = 1
noncomputable def cnt (a : Mm) (x t : Int) (n : Nat) : Int := sm (fun d => bz (gdP a x t d)) n
def DA (a : Mm) (x : Int) : Prop := (0 ≤ rd a 27 x 1 ∧ rd a 27 x 1 ≤ 100) ∧ (∀ d, 0 ≤ d → d < rd a 27 x 1 → dOK a x d) ∧ (rd a 27 x 1 < 100 → ∀ t, 0 ≤ t → t < 24 → rd a 21 (30 + x) t = cnt a x t (rd a 27 x 1).toNat)
def JC (a : Mm) (x N : Int) : Prop := CJ a x N ∧ PX a ∧ DA a x
theorem PX_of {a a' : Mm} (h : PX a) (hk : ∀ (k : Nat) (i j : Int), k < 20 → rd a' k i j = rd a k i j) : PX a' := by
  unfold PX at h ⊢
  simp only [hk 18 _ _ (by decide), hk 12 _ _ (by decide), hk 17 _ _ (by decide), hk 5 _ _ (by decide)]
  exact h
theorem DA_of {a a' : Mm} {x : Int} (h : DA a x) (h5 : rd a' 5 0 7 = rd a 5 0 7) (h21 : ∀ t, rd a' 21 (30 + x) t = rd a 21 (30 + x) t) (h27 : rd a' 27 x 1 = rd a 27 x 1) (h28 : ∀ z, rd a' 28 x z = rd a 28 x z) : DA a' x := by
  unfold DA dOK cnt gdP at h ⊢
  simp only [h5, h21, h27, h28]
  exact h
theorem rd_ag1 (mm : Mm) (b t n : Int) (k : Nat) (i j : Int) (h : k ≠ 23) : rd (ag1 mm b t n) k i j = rd mm k i j := by
  unfold ag1
  by_cases q : phC mm b t n = -1
  · rw [pif_t q]
  · rw [pif_f q]; exact rd_st_ne h
theorem add_21 (mm : Mm) (b t n z : Int) : rd (addC mm b t n) 21 b z = if z = rd mm 18 t 9 then wr (rd mm 21 b (rd mm 18 t 9) + 1) else rd mm 21 b z := by
  unfold addC ag3
  rw [rd_st_ne (by decide)]
  unfold ag2
  rw [rd_st, rd_ag1 _ _ _ _ _ _ _ (by decide), rd_ag1 _ _ _ _ _ _ _ (by decide), rd_ag1 _ _ _ _ _ _ _ (by decide), wr_wr]
  by_cases e : z = rd mm 18 t 9
  · rw [if_pos ⟨rfl, rfl, e⟩, if_pos e]
  · rw [if_neg (fun c => e c.2.2), if_neg e]
theorem keep_rd (a : Mm) (x v s t q g u : Int) (hc : rd a 27 x 1 < 100) (c0 : 0 ≤ rd a 27 x 1) : rd (keepC a x v s t q g u) 27 x 1 = rd a 27 x 1 + 1 ∧
    rd (keepC a x v s t q g u) 28 x (rd a 27 x 1 * 7) = rd a 31 v 0 ∧ rd (keepC a x v s t q g u) 28 x (rd a 27 x 1 * 7 + 1) = rd a 31 v 1 ∧ rd (keepC a x v s t q g u) 28 x (rd a 27 x 1 * 7 + 2) = wr s ∧ rd (keepC a x v s t q g u) 28 x (rd a 27 x 1 * 7 + 3) = wr t ∧ rd (keepC a x v s t q g u) 28 x (rd a 27 x 1 * 7 + 4) = wr q ∧ rd (keepC a x v s t q g u) 28 x (rd a 27 x 1 * 7 + 5) = wr (pif (wr g = 0) 0 1) ∧ rd (keepC a x v s t q g u) 28 x (rd a 27 x 1 * 7 + 6) = wr u ∧
    (∀ z, z < rd a 27 x 1 * 7 → rd (keepC a x v s t q g u) 28 x z = rd a 28 x z) := by
  unfold keepC kpn kpC kp2 kp1
  rw [pif_t hc]
  generalize hd : rd a 27 x 1 = c at *
  refine ⟨?_, ?_, ?_, ?_, ?_, ?_, ?_, ?_, fun z hz => ?_⟩
  · rw [rd_st, if_pos ⟨rfl, rfl, rfl⟩, wr_wr]
    rw [rd_st_ne (by decide), rd_st_ne (by decide), rd_st_ne (by decide), rd_st_ne (by decide), rd_st_ne (by decide), rd_st_ne (by decide), rd_st_ne (by decide), hd, wr_of (by omega) (by omega)]
  · rw [rd_st_ne (by decide), rd_st, if_neg (by omega), rd_st, if_neg (by omega), rd_st, if_neg (by omega), rd_st, if_neg (by omega), rd_st, if_neg (by omega), rd_st, if_neg (by omega), rd_st, if_pos ⟨rfl, rfl, rfl⟩, wr_wr, wr_rd]
  · rw [rd_st_ne (by decide), rd_st, if_neg (by omega), rd_st, if_neg (by omega), rd_st, if_neg (by omega), rd_st, if_neg (by omega), rd_st, if_neg (by omega), rd_st, if_pos ⟨rfl, rfl, rfl⟩, wr_wr, wr_rd, rd_st_ne (by decide)]
  · rw [rd_st_ne (by decide), rd_st, if_neg (by omega), rd_st, if_neg (by omega), rd_st, if_neg (by omega), rd_st, if_neg (by omega), rd_st, if_pos ⟨rfl, rfl, rfl⟩, wr_wr]
  · rw [rd_st_ne (by decide), rd_st, if_neg (by omega), rd_st, if_neg (by omega), rd_st, if_neg (by omega), rd_st, if_pos ⟨rfl, rfl, rfl⟩, wr_wr]
  · rw [rd_st_ne (by decide), rd_st, if_neg (by omega), rd_st, if_neg (by omega), rd_st, if_pos ⟨rfl, rfl, rfl⟩, wr_wr]
  · rw [rd_st_ne (by decide), rd_st, if_neg (by omega), rd_st, if_pos ⟨rfl, rfl, rfl⟩, wr_wr]
  · rw [rd_st_ne (by decide), rd_st, if_pos ⟨rfl, rfl, rfl⟩, wr_wr]
  · rw [rd_st_ne (by decide), rd_st, if_neg (by omega), rd_st, if_neg (by omega), rd_st, if_neg (by omega), rd_st, if_neg (by omega), rd_st, if_neg (by omega), rd_st, if_neg (by omega), rd_st, if_neg (by omega)]
theorem fin2_o (m : Mm) (x v i : Int) (k : Nat) (j z : Int) (h25 : k ≠ 25) (h27 : k ≠ 27) (h28 : k ≠ 28) : rd (fin2 m (fin1 m x v i) x v) k j z = rd m k j z := by
  unfold fin2
  rw [rd_st_ne h25]
  exact rd_keep _ _ _ _ _ _ _ _ _ _ _ h28 h27
theorem fin2_e (m : Mm) (x v i : Int) : fin2 m (fin1 m x v i) x v = st (fin1 m x v i) 25 (30 + x) (grpC m v) (wr (rd m 25 (30 + x) (grpC m v) + rd m 31 v 2)) := by
  unfold fin2
  have e : ∀ (k : Nat) (a b : Int), k ≠ 28 → k ≠ 27 → rd (fin1 m x v i) k a b = rd m k a b := fun k a b h1 h2 => rd_keep _ _ _ _ _ _ _ _ _ _ _ h1 h2
  simp only [e 18 _ _ (by decide) (by decide), e 19 _ _ (by decide) (by decide), e 25 _ _ (by decide) (by decide), e 31 _ _ (by decide) (by decide)]
  rfl
theorem fin3_o (m2 : Mm) (x v n g : Int) (k : Nat) (j z : Int) (h : k ≠ 21 ∧ k ≠ 22 ∧ k ≠ 23) (h24 : k ≠ 24) : rd (fin3 m2 x v n g) k j z = rd m2 k j z := by
  unfold fin3
  by_cases q : rd m2 31 v 0 = 2
  · rw [pif_t q, rd_st_ne h24]
  · rw [pif_f q]
    by_cases q2 : g = 0
    · rw [pif_t q2]
    · rw [pif_f q2, rd_add _ _ _ _ _ _ _ h]
theorem fin_25 (m : Mm) (x v i j g : Int) : rd (finC m x v i) 25 j g = if j = 30 + x ∧ g = grpC m v then wr (rd m 25 (30 + x) (grpC m v) + rd m 31 v 2) else rd m 25 j g := by
  unfold finC fin4
  rw [rd_begin _ _ _ _ _ _ _ (fun q => absurd q.1 (by decide)), rd_st_ne (by decide), fin3_o _ _ _ _ _ _ _ _ (by decide) (by decide), fin2_e, rd_st, wr_wr]
  by_cases e : j = 30 + x ∧ g = grpC m v
  · rw [if_pos ⟨rfl, e.1, e.2⟩, if_pos e]
  · rw [if_neg (fun q => e q.2), if_neg e]
    exact rd_keep _ _ _ _ _ _ _ _ _ _ _ (by decide) (by decide)
theorem fin_28 (m : Mm) (x v i : Int) (k : Nat) (hk : k = 27 ∨ k = 28) (j z : Int) : rd (finC m x v i) k j z = rd (fin1 m x v i) k j z := by
  unfold finC fin4
  rw [rd_begin _ _ _ _ _ _ _ (by omega), rd_st_ne (by omega), fin3_o _ _ _ _ _ _ _ _ (by omega) (by omega), fin2_e, rd_st_ne (by omega)]
theorem fin_21a (m : Mm) (x v i j t : Int) (h : rd m 31 v 0 = 2) : rd (finC m x v i) 21 j t = rd m 21 j t := by
  unfold finC fin4
  rw [rd_begin _ _ _ _ _ _ _ (fun q => absurd q.1 (by decide)), rd_st_ne (by decide)]
  unfold fin3
  rw [pif_t (by rw [fin2_o _ _ _ _ _ _ _ (by decide) (by decide) (by decide)]; exact h), rd_st_ne (by decide), fin2_o _ _ _ _ _ _ _ (by decide) (by decide) (by decide)]
theorem fin_21b (m : Mm) (x v i t : Int) (h : rd m 31 v 0 = 1) : rd (finC m x v i) 21 (30 + x) t = pif (finG m x v i = 0) (rd m 21 (30 + x) t) (if t = rd m 18 (rd m 31 v 1) 9 then wr (rd m 21 (30 + x) (rd m 18 (rd m 31 v 1) 9) + 1) else rd m 21 (30 + x) t) := by
  unfold finC fin4
  rw [rd_begin _ _ _ _ _ _ _ (fun q => absurd q.1 (by decide)), rd_st_ne (by decide)]
  unfold fin3
  have e : ∀ (k : Nat) (a b : Int), k ≠ 25 → k ≠ 27 → k ≠ 28 → rd (fin2 m (fin1 m x v i) x v) k a b = rd m k a b := fun k a b h1 h2 h3 => fin2_o _ _ _ _ _ _ _ h1 h2 h3
  rw [pif_f (by rw [e 31 _ _ (by decide) (by decide) (by decide), h]; decide)]
  by_cases g : finG m x v i = 0
  · rw [pif_t g, pif_t g, e 21 _ _ (by decide) (by decide) (by decide)]
  · rw [pif_f g, pif_f g, add_21, e 31 _ _ (by decide) (by decide) (by decide), e 18 _ _ (by decide) (by decide) (by decide), e 21 _ _ (by decide) (by decide) (by decide), e 21 _ _ (by decide) (by decide) (by decide)]
theorem cnt_r (a : Mm) (x t : Int) : ∀ n : Nat, 0 ≤ cnt a x t n ∧ cnt a x t n ≤ n
  | 0 => ⟨Int.le_refl _, Int.le_refl _⟩
  | n + 1 => by
    have h := cnt_r a x t n
    have h2 := bz01 (gdP a x t n)
    show 0 ≤ cnt a x t n + bz (gdP a x t n) ∧ cnt a x t n + bz (gdP a x t n) ≤ _
    omega
theorem cnt_congr {a a' : Mm} {x x' t : Int} (n : Nat) (h : ∀ z, z < (n : Int) * 7 → rd a' 28 x' z = rd a 28 x z) : cnt a' x' t n = cnt a x t n := by
  unfold cnt
  refine sm_congr n (fun d d0 d1 => ?_)
  have e : gdP a' x' t d = gdP a x t d := by
    unfold gdP
    rw [h _ (by omega), h _ (by omega), h _ (by omega)]
  rw [e]
theorem DA_fin {m : Mm} {x v i : Int} (hP : PX m) (hD : DA m x) (hk : vPre m v) (hnum : rd m 31 v 0 = 1 → rd m 31 v 1 < rd m 5 0 7) (w0 : 0 ≤ rd m 26 x 8) (w1 : rd m 26 x 8 < 720) (q0 : 1 ≤ rd m 31 v 3) (q1 : rd m 31 v 3 ≤ 50) : DA (finC m x v i) x := by
  obtain ⟨⟨c0, c1⟩, hd, hc⟩ := hD
  have h5 : rd (finC m x v i) 5 0 7 = rd m 5 0 7 := rd_fin _ _ _ _ _ _ _ (by unfold finS; decide) (fun q => absurd q.1 (by decide)) (fun q => absurd q.1 (by decide))
  by_cases hc1 : rd m 27 x 1 < 100
  · obtain ⟨k1, p0, p1, p2, p3, p4, p5, p6, po⟩ := keep_rd m x v i (rd m 26 x 8) (finQ m x v i) (finG m x v i) (finU m x v i) hc1 c0
    have e27 : rd (finC m x v i) 27 x 1 = rd m 27 x 1 + 1 := (fin_28 m x v i 27 (Or.inl rfl) x 1).trans k1
    have e28 : ∀ z, z < rd m 27 x 1 * 7 → rd (finC m x v i) 28 x z = rd m 28 x z := fun z hz => (fin_28 m x v i 28 (Or.inr rfl) x z).trans (po z hz)
    have f28 : ∀ z, rd (finC m x v i) 28 x z = rd (fin1 m x v i) 28 x z := fun z => fin_28 m x v i 28 (Or.inr rfl) x z
    have p0' := (f28 (rd m 27 x 1 * 7)).trans p0
    have p1' := (f28 (rd m 27 x 1 * 7 + 1)).trans p1
    have p3' := (f28 (rd m 27 x 1 * 7 + 3)).trans p3
    have p4' := (f28 (rd m 27 x 1 * 7 + 4)).trans p4
    have p5' := (f28 (rd m 27 x 1 * 7 + 5)).trans p5
    have p6' := (f28 (rd m 27 x 1 * 7 + 6)).trans p6
    have hu : -1 ≤ finU m x v i ∧ finU m x v i ≤ rd m 26 x 8 / 24 := by
      have h := fdown_range (fun t => ¬ rd m 16 i (aimF m v 4 * 30 + t) = 0) (finN m x + 1).toNat
      have e : finN m x = rd m 26 x 8 / 24 := rfl
      unfold finU newC
      omega
    have hq : 0 ≤ finQ m x v i ∧ (finQ m x v i = 0 ∨ finQ m x v i ≤ 99 - 5 * (rd m 26 x 8 / 24 - finU m x v i)) := by
      unfold finQ jmax
      have e : finN m x = rd m 26 x 8 / 24 := rfl
      rw [e, show wr 0 = 0 from rfl, wr_of (by omega) (by omega)]
      split <;> omega
    have wq : wr (finQ m x v i) = finQ m x v i := wr_of (by omega) (by omega)
    have wu : wr (finU m x v i) = finU m x v i := wr_of (by omega) (by omega)
    rw [wr_rd] at p3'
    rw [wq] at p4'
    rw [wu] at p6'
    refine ⟨⟨by rw [e27]; omega, by rw [e27]; omega⟩, fun d d0 d1 => ?_, fun h100 t t0 t1 => ?_⟩
    · rw [e27] at d1
      by_cases ed : d = rd m 27 x 1
      · rw [ed]
        unfold dOK
        rw [p0', p1', p3', p4', p6', h5]
        refine ⟨?_, fun h1 => ⟨?_, hnum h1⟩, ⟨w0, w1⟩, hu, hq⟩
        · rcases hk with ⟨h, -⟩ | ⟨h, -⟩
          · exact Or.inl h
          · exact Or.inr h
        · rcases hk with ⟨h, h0, -⟩ | ⟨h, -⟩
          · exact h0
          · rw [h] at h1; exact absurd h1 (by decide)
      · have h9 := hd d d0 (by omega)
        unfold dOK at h9 ⊢
        rw [e28 _ (by omega), e28 _ (by omega), e28 _ (by omega), e28 _ (by omega), e28 _ (by omega), h5]
        exact h9
    · rw [e27] at h100 ⊢
      have h9 := hc hc1 t t0 t1
      have hr := cnt_r m x t (rd m 27 x 1).toNat
      rw [show (rd m 27 x 1 + 1).toNat = (rd m 27 x 1).toNat + 1 by omega]
      show _ = cnt (finC m x v i) x t (rd m 27 x 1).toNat + bz (gdP (finC m x v i) x t ((rd m 27 x 1).toNat : Int))
      rw [cnt_congr (a := m) (x := x) (rd m 27 x 1).toNat (fun z hz => e28 z (by omega)), Int.toNat_of_nonneg c0, ← h9]
      rcases hk with ⟨hk1, n0, n1⟩ | ⟨hk2, n0, n1⟩
      · rw [fin_21b _ _ _ _ _ hk1]
        have en : rd m 18 (rd m 31 v 1) 9 = rd m 31 v 1 := hP.1 _ n0 (hnum hk1)
        rw [en]
        by_cases g : finG m x v i = 0
        · rw [pif_t g, bz_f]
          · omega
          · rintro ⟨-, -, h⟩
            rw [p5', g, wr_0, pif_t rfl] at h
            exact absurd h (by decide)
        · rw [pif_f g]
          have g1 : finG m x v i = 1 := (finG01 m x v i).resolve_left g
          have e5 : rd (finC m x v i) 28 x (rd m 27 x 1 * 7 + 5) = 1 := by rw [p5', g1, pif_f (by decide)]; rfl
          by_cases et : t = rd m 31 v 1
          · rw [if_pos et, bz_t ⟨by rw [p0', hk1], by rw [p1', et], e5⟩, ← et, wr_of (by omega) (by omega)]
          · rw [if_neg et, bz_f (fun h => et (by rw [← h.2.1, p1']))]
            omega
      · rw [fin_21a _ _ _ _ _ _ hk2, bz_f]
        · omega
        · rintro ⟨h, -⟩
          rw [p0', hk2] at h
          exact absurd h (by decide)
  · have e1 : fin1 m x v i = m := pif_f hc1
    have e28 : ∀ (k : Nat) z, (k = 27 ∨ k = 28) → rd (finC m x v i) k x z = rd m k x z := fun k z hk => by rw [fin_28 m x v i k hk x z, e1]
    refine ⟨⟨by rw [e28 27 _ (Or.inl rfl)]; exact c0, by rw [e28 27 _ (Or.inl rfl)]; exact c1⟩, fun d d0 d1 => ?_, fun h100 => ?_⟩
    · rw [e28 27 _ (Or.inl rfl)] at d1
      have h9 := hd d d0 d1
      unfold dOK at h9 ⊢
      simp only [e28 28 _ (Or.inr rfl), h5]
      exact h9
    · rw [e28 27 _ (Or.inl rfl)] at h100
      exact absurd h100 hc1
