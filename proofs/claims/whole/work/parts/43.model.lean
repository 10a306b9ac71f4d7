/-! ===== the model, XIV: what the walk keeps; a site's slot ===== -/
def tq (k : Nat) (j : Int) : Prop := (k = 40 ∧ (j = 12 ∨ j = 25 ∨ j = 30)) ∨ (49 ≤ k ∧ k ≤ 65)
def MV (mm : Mm) : Prop := IM mm ∧ VM mm ∧ 0 ≤ rd mm 40 0 58
theorem MV_of {m m' : Mm} (h : MV m) (h1 : ∀ (k : Nat) (i j : Int), tq k j → rd m' k i j = rd m k i j) (h2 : VM m') (h3 : 0 ≤ rd m' 40 0 58) : MV m' := ⟨IM_of h.1 (fun k i j hk => h1 k i j hk), h2, h3⟩
theorem rd_mbg (m : Mm) (s x : Int) (k : Nat) (i j : Int) (h : k ≠ 80 ∧ k ≠ 81 ∧ k ≠ 82) : rd (mbgC m s x) k i j = rd m k i j := by
  unfold mbgC
  rw [rd_st_ne h.2.2, rd_st_ne h.2.1, rd_st_ne h.1]
theorem rd_mls (m : Mm) (x n : Int) (k : Nat) (i j : Int) (h : k ≠ 77) : rd (mlsC m x n) k i j = rd m k i j := by
  unfold mlsC
  rw [rd_st_ne h]
theorem rd_mcl (m : Mm) (s z : Int) (k : Nat) (i j : Int) (h : k ≠ 77 ∧ k ≠ 80 ∧ k ≠ 83 ∧ k ≠ 84 ∧ k ≠ 85) : rd (mclC m s z) k i j = rd m k i j := by
  unfold mclC
  rw [rd_st_ne h.2.1]
  by_cases q : 23 < rd m 80 0 s
  · rw [pif_t q, rd_mls _ _ _ _ _ _ h.1]
  · rw [pif_f q]
    by_cases q2 : 0 ≤ rd m 80 0 s
    · rw [pif_t q2]
      unfold cl2 cl1
      rw [rd_st_ne h.2.2.2.2, rd_st_ne h.2.2.2.1, rd_st_ne h.2.2.1]
    · rw [pif_f q2]
theorem rd_alm (m : Mm) (s n u : Int) (k : Nat) (i j : Int) (h : k ≠ 77 ∧ k ≠ 80 ∧ k ≠ 81 ∧ k ≠ 82) : rd (almC m s n u) k i j = rd m k i j := by
  unfold almC
  by_cases q : 0 ≤ almR m s n u ∧ (rd m 80 0 s < 24 ∨ rd m 67 0 (rd m 80 0 s - 24) < rd m 67 0 (almR m s n u))
  · rw [pif_t q, rd_mbg _ _ _ _ _ _ h.2]
    by_cases q2 : 0 ≤ rd m 80 0 s
    · rw [pif_t q2, rd_mls _ _ _ _ _ _ h.1]
    · rw [pif_f q2]
  · rw [pif_f q]
theorem rd_rsm (m : Mm) (s n u : Int) (k : Nat) (i j : Int) (h : k ≠ 80 ∧ k ≠ 81 ∧ k ≠ 82 ∧ k ≠ 83) : rd (rsmC m s n u) k i j = rd m k i j := by
  unfold rsmC
  by_cases q : 0 ≤ rsmR m s n u
  · rw [pif_t q]
    unfold rs4 rs3
    rw [rd_st_ne h.2.2.2, rd_st_ne h.2.2.1, rd_st_ne h.2.1, rd_mbg _ _ _ _ _ _ ⟨h.1, h.2.1, h.2.2.1⟩]
  · rw [pif_f q]
theorem rd_chs (m : Mm) (s n u : Int) (k : Nat) (i j : Int) (h : k ≠ 80 ∧ k ≠ 81 ∧ k ≠ 82) : rd (chsC m s n u) k i j = rd m k i j := by
  unfold chsC
  by_cases q : 0 ≤ chsR m s n u
  · rw [pif_t q, rd_mbg _ _ _ _ _ _ h]
  · rw [pif_f q]
theorem rd_d6 (m : Mm) (w n f : Int) (k : Nat) (i j : Int) (h : k ≠ 72 ∧ k ≠ 73 ∧ k ≠ 74 ∧ k ≠ 75) : rd (d6 m w n f) k i j = rd m k i j := by
  unfold d6
  by_cases q : 23 < w
  · rw [pif_t q, rd_st_ne h.2.2.2]
  · rw [pif_f q]
    by_cases q2 : f = 0
    · rw [pif_t q2]
    · rw [pif_f q2]
      unfold d5 d4 d3
      rw [rd_st_ne h.2.2.1, rd_st_ne h.1, rd_st_ne h.2.1]
theorem rd_d8 (m : Mm) (s n u w q f a : Int) (k : Nat) (i j : Int) (h : ¬ (k = 40 ∧ j = 58) ∧ ¬ (93 ≤ k ∧ k ≤ 98)) : rd (d8 m s n u w q f a) k i j = rd m k i j := by
  unfold d8
  by_cases z : rd m 40 0 50 = 0 ∧ rd m 40 0 58 < 100
  · rw [pif_t z]
    unfold d7
    rw [rd_st, if_neg (by omega), rd_st_ne (by omega), rd_st_ne (by omega), rd_st_ne (by omega), rd_st_ne (by omega), rd_st_ne (by omega), rd_st_ne (by omega)]
  · rw [pif_f z]
theorem d8_58 (m : Mm) (s n u w q f a : Int) (h0 : 0 ≤ rd m 40 0 58) : 0 ≤ rd (d8 m s n u w q f a) 40 0 58 := by
  unfold d8
  by_cases z : rd m 40 0 50 = 0 ∧ rd m 40 0 58 < 100
  · rw [pif_t z]
    unfold d7
    rw [rd_st, if_pos ⟨rfl, rfl, rfl⟩, wr_wr, wr_of (by omega) (by omega)]; omega
  · rw [pif_f z]; exact h0
def dK (k : Nat) (j : Int) : Prop := ¬ (k = 40 ∧ (j = 51 ∨ j = 58)) ∧ ¬ (93 ≤ k ∧ k ≤ 98) ∧ ¬ (72 ≤ k ∧ k ≤ 76) ∧ k ≠ 80
theorem rd_don (m : Mm) (s n u : Int) (k : Nat) (i j : Int) (h : dK k j) : rd (donC m s n u) k i j = rd m k i j := by
  unfold dK at h
  unfold donC donF
  rw [rd_st_ne h.2.2.2, rd_d8 _ _ _ _ _ _ _ _ _ _ _ (by omega), rd_d6 _ _ _ _ _ _ _ (by omega)]
  unfold d2 d1
  rw [rd_st, if_neg (by omega), rd_st_ne (by omega)]
theorem tq_r {k : Nat} {j : Int} (h : tq k j) : k ≠ 77 ∧ k ≠ 80 ∧ k ≠ 81 ∧ k ≠ 82 ∧ k ≠ 83 ∧ k ≠ 84 ∧ k ≠ 85 ∧ k ≠ 78 ∧ k ≠ 79 ∧ dK k j := by
  unfold tq at h
  unfold dK
  omega
theorem VM_one {m m' : Mm} (h : VM m) (s : Int) (ho : ∀ i, i ≠ s → rd m' 80 0 i = rd m 80 0 i) (hs : -1 ≤ rd m' 80 0 s ∧ rd m' 80 0 s < 34) : VM m' := by
  intro i i0 i1
  by_cases q : i = s
  · rw [q]; exact hs
  · rw [ho i q]; exact h i i0 i1
theorem vw_mbg (m : Mm) (s x i : Int) : rd (mbgC m s x) 80 0 i = if i = s then wr x else rd m 80 0 i := by
  unfold mbgC
  rw [rd_st_ne (by decide), rd_st_ne (by decide), rd_st]
  by_cases q : i = s
  · rw [if_pos q, if_pos ⟨rfl, rfl, q⟩, wr_wr]
  · rw [if_neg q, if_neg (fun h => q h.2.2)]
theorem VM_mbg {m : Mm} (h : VM m) {s x : Int} (x0 : -1 ≤ x) (x1 : x < 34) : VM (mbgC m s x) :=
  VM_one h s (fun i q => by rw [vw_mbg, if_neg q]) (by rw [vw_mbg, if_pos rfl, wr_of (by omega) (by omega)]; exact ⟨x0, x1⟩)
theorem VM_same {m m' : Mm} (h : VM m) (he : ∀ i, rd m' 80 0 i = rd m 80 0 i) : VM m' := fun i i0 i1 => by rw [he]; exact h i i0 i1
theorem VM_end {m : Mm} (h : VM m) (s : Int) : VM (st m 80 0 s (wr (-1))) :=
  VM_one h s (fun i q => by rw [rd_st, if_neg (fun z => q z.2.2)]) (by rw [rd_st, if_pos ⟨rfl, rfl, rfl⟩]; decide)
theorem MV_mcl {m : Mm} (h : MV m) (s z : Int) : MV (mclC m s z) := by
  refine MV_of h (fun k i j hk => by have := tq_r hk; exact rd_mcl _ _ _ _ _ _ (by omega)) ?_ (by rw [rd_mcl _ _ _ _ _ _ (by decide)]; exact h.2.2)
  unfold mclC
  refine VM_end ?_ s
  refine VM_same h.2.1 (fun i => ?_)
  by_cases q : 23 < rd m 80 0 s
  · rw [pif_t q, rd_mls _ _ _ _ _ _ (by decide)]
  · rw [pif_f q]
    by_cases q2 : 0 ≤ rd m 80 0 s
    · rw [pif_t q2]
      unfold cl2 cl1
      rw [rd_st_ne (by decide), rd_st_ne (by decide), rd_st_ne (by decide)]
    · rw [pif_f q2]
theorem MV_alm {m : Mm} (h : MV m) (s n u : Int) : MV (almC m s n u) := by
  refine MV_of h (fun k i j hk => by have := tq_r hk; exact rd_alm _ _ _ _ _ _ _ (by omega)) ?_ (by rw [rd_alm _ _ _ _ _ _ _ (by decide)]; exact h.2.2)
  have ha := h.1.2.2.1
  have hr := almB_r m s n u (rd m 40 0 30).toNat (-1)
  change almR m s n u = -1 ∨ (0 ≤ almR m s n u ∧ almR m s n u < _) at hr
  unfold almC
  by_cases q : 0 ≤ almR m s n u ∧ (rd m 80 0 s < 24 ∨ rd m 67 0 (rd m 80 0 s - 24) < rd m 67 0 (almR m s n u))
  · rw [pif_t q]
    refine VM_mbg (VM_same h.2.1 (fun i => ?_)) (by omega) (by omega)
    by_cases q2 : 0 ≤ rd m 80 0 s
    · rw [pif_t q2, rd_mls _ _ _ _ _ _ (by decide)]
    · rw [pif_f q2]
  · rw [pif_f q]; exact h.2.1
theorem MV_rsm {m : Mm} (h : MV m) (s n u : Int) : MV (rsmC m s n u) := by
  refine MV_of h (fun k i j hk => by have := tq_r hk; exact rd_rsm _ _ _ _ _ _ _ (by omega)) ?_ (by rw [rd_rsm _ _ _ _ _ _ _ (by decide)]; exact h.2.2)
  have ha := h.1.2.1
  have hr := rsmB_r m s n u (rd m 40 0 25).toNat 0 (-1) (by decide) (by decide) (by omega)
  change -1 ≤ rsmR m s n u ∧ rsmR m s n u < _ at hr
  unfold rsmC
  by_cases q : 0 ≤ rsmR m s n u
  · rw [pif_t q]
    refine VM_same (VM_mbg h.2.1 (s := s) (x := rsmR m s n u) (by omega) (by omega)) (fun i => ?_)
    unfold rs4 rs3
    rw [rd_st_ne (by decide), rd_st_ne (by decide), rd_st_ne (by decide)]
  · rw [pif_f q]; exact h.2.1
theorem chsB_r (mm : Mm) (s n u : Int) : ∀ (k : Nat) (t r : Int), 0 ≤ t → -1 ≤ r → r < t + k → -1 ≤ chsB mm s n u k t r ∧ chsB mm s n u k t r < t + k
  | 0, t, r, _, h1, h2 => ⟨h1, h2⟩
  | k + 1, t, r, h0, h1, h2 => by
    unfold chsB
    have h := chsB_r mm s n u k (t + 1) (pif (chsQ mm s n u r t) t r) (by omega) (by
      by_cases q : chsQ mm s n u r t
      · rw [pif_t q]; omega
      · rw [pif_f q]; omega) (by
      by_cases q : chsQ mm s n u r t
      · rw [pif_t q]; omega
      · rw [pif_f q]; omega)
    omega
theorem MV_chs {m : Mm} (h : MV m) (s n u : Int) : MV (chsC m s n u) := by
  refine MV_of h (fun k i j hk => by have := tq_r hk; exact rd_chs _ _ _ _ _ _ _ (by omega)) ?_ (by rw [rd_chs _ _ _ _ _ _ _ (by decide)]; exact h.2.2)
  have ha := h.1.2.1
  have hr := chsB_r m s n u (rd m 40 0 25).toNat 0 (-1) (by decide) (by decide) (by omega)
  change -1 ≤ chsR m s n u ∧ chsR m s n u < _ at hr
  unfold chsC
  by_cases q : 0 ≤ chsR m s n u
  · rw [pif_t q]; exact VM_mbg h.2.1 (by omega) (by omega)
  · rw [pif_f q]; exact h.2.1
theorem MV_don {m : Mm} (h : MV m) (s n u : Int) : MV (donC m s n u) := by
  refine MV_of h (fun k i j hk => rd_don _ _ _ _ _ _ _ (tq_r hk).2.2.2.2.2.2.2.2.2) ?_ ?_
  · unfold donC donF
    refine VM_end (VM_same h.2.1 (fun i => ?_)) s
    rw [rd_d8 _ _ _ _ _ _ _ _ _ _ _ (by omega), rd_d6 _ _ _ _ _ _ _ (by decide)]
    unfold d2 d1
    rw [rd_st_ne (by decide), rd_st_ne (by decide)]
  · unfold donC donF
    rw [rd_st_ne (by decide)]
    refine d8_58 _ _ _ _ _ _ _ _ ?_
    rw [rd_d6 _ _ _ _ _ _ _ (by decide)]
    unfold d2 d1
    rw [rd_st, if_neg (by omega), rd_st_ne (by decide)]; exact h.2.2
/-- an array that the invariant doesn't speak of is written -/
theorem MV_st {m : Mm} (h : MV m) (k : Nat) (i j v : Int) (hk : k ≠ 40 ∧ ¬ (49 ≤ k ∧ k ≤ 65) ∧ k ≠ 80) : MV (st m k i j v) :=
  MV_of h (fun k' i' j' hq => rd_st_ne (by unfold tq at hq; omega)) (VM_same h.2.1 (fun i => rd_st_ne (by omega))) (by rw [rd_st_ne (by omega)]; exact h.2.2)
noncomputable def siA (mm : Mm) (s n u : Int) : Mm := almC mm s n u
noncomputable def siB (m : Mm) (s n u : Int) : Mm := pif (rd m 80 0 s < 0) (rsmC m s n u) m
noncomputable def siD (m : Mm) (s n u : Int) : Mm := pif (rd m 80 0 s < 0) (chsC m s n u) m
def si1 (m : Mm) (s : Int) : Mm := st m 81 0 s (wr (rd m 81 0 s + 1))
noncomputable def si2 (m : Mm) (s n u : Int) : Mm := st m 82 0 s (wr (pif (msnC m s n u ≤ rd m 82 0 s) (rd m 82 0 s) (msnC m s n u)))
noncomputable def si3 (m : Mm) (s n u : Int) : Mm := pif (rd m 81 0 s = rd m 57 0 (rd m 80 0 s)) (donC m s n u) m
noncomputable def siE (m : Mm) (s n u : Int) : Mm := pif (rd m 80 0 s < 0) (st m 79 0 s (wr (rd m 79 0 s + 1))) (si3 (si2 (si1 m s) s n u) s n u)
noncomputable def siF (m : Mm) (s : Int) : Mm := st m 78 0 s (wr (rd m 78 0 s + 1))
noncomputable def siM (mm : Mm) (s n u : Int) : Mm := pif (msnC mm s n u = 0) (siF (mclC mm s (24 * n + u)) s) (siE (siD (siB (siA mm s n u) s n u) s n u) s n u)
theorem MV_siM {m : Mm} (h : MV m) (s n u : Int) : MV (siM m s n u) := by
  unfold siM
  by_cases q : msnC m s n u = 0
  · rw [pif_t q]; exact MV_st (MV_mcl h _ _) _ _ _ _ (by decide)
  · rw [pif_f q]
    have h1 : MV (siA m s n u) := MV_alm h s n u
    have h2 : MV (siB (siA m s n u) s n u) := by
      unfold siB
      by_cases q : rd (siA m s n u) 80 0 s < 0
      · rw [pif_t q]; exact MV_rsm h1 _ _ _
      · rw [pif_f q]; exact h1
    have h3 : MV (siD (siB (siA m s n u) s n u) s n u) := by
      unfold siD
      by_cases q : rd (siB (siA m s n u) s n u) 80 0 s < 0
      · rw [pif_t q]; exact MV_chs h2 _ _ _
      · rw [pif_f q]; exact h2
    unfold siE
    by_cases q : rd (siD (siB (siA m s n u) s n u) s n u) 80 0 s < 0
    · rw [pif_t q]; exact MV_st h3 _ _ _ _ (by decide)
    · rw [pif_f q]
      have h4 : MV (si2 (si1 (siD (siB (siA m s n u) s n u) s n u) s) s n u) := MV_st (MV_st h3 _ _ _ _ (by decide)) _ _ _ _ (by decide)
      unfold si3
      by_cases q : rd (si2 (si1 (siD (siB (siA m s n u) s n u) s n u) s) s n u) 81 0 s = rd (si2 (si1 (siD (siB (siA m s n u) s n u) s n u) s) s n u) 57 0 (rd (si2 (si1 (siD (siB (siA m s n u) s n u) s n u) s) s n u) 80 0 s)
      · rw [pif_t q]; exact MV_don h4 _ _ _
      · rw [pif_f q]; exact h4
