/-! ===== class and model side by side, XIII: what a slot leaves of the nights before ===== -/
def EF (n : Int) (m m' : Mm) : Prop := (∀ t j, 0 ≤ t → t < 24 → 0 ≤ j → j < 32 → j ≠ n → tb (rd m' 74 0 t) j = tb (rd m 74 0 t) j) ∧ (∀ i, 0 ≤ i → i < 10 → rd m' 75 0 i = rd m 75 0 i ∨ (rd m 75 0 i < 0 ∧ rd m' 75 0 i = n))
theorem EF_same {n : Int} {m m' : Mm} (h : ∀ j, rd m' 74 0 j = rd m 74 0 j) (h2 : ∀ j, rd m' 75 0 j = rd m 75 0 j) : EF n m m' := ⟨fun t j _ _ _ _ _ => by rw [h], fun i _ _ => Or.inl (h2 i)⟩
theorem EF_trans {n : Int} {m m' m'' : Mm} (n0 : 0 ≤ n) (h : EF n m m') (h2 : EF n m' m'') : EF n m m'' := by
  refine ⟨fun t j t0 t1 j0 j1 hj => (h2.1 t j t0 t1 j0 j1 hj).trans (h.1 t j t0 t1 j0 j1 hj), fun i i0 i1 => ?_⟩
  rcases h.2 i i0 i1 with e | ⟨e1, e2⟩
  · rcases h2.2 i i0 i1 with f | ⟨f1, f2⟩
    · exact Or.inl (f.trans e)
    · exact Or.inr ⟨by omega, f2⟩
  · rcases h2.2 i i0 i1 with f | ⟨f1, f2⟩
    · exact Or.inr ⟨e1, f.trans e2⟩
    · omega
theorem don_t (m : Mm) (s n u : Int) (k : Nat) (j : Int) (hk : k ≠ 76) (h80 : k ≠ 80) (h1 : ¬ (k = 40 ∧ (j = 51 ∨ j = 58))) (h2 : ¬ (93 ≤ k ∧ k ≤ 98)) : rd (donC m s n u) k 0 j = rd (d6 (d2 (d1 m (rd m 80 0 s)) (bz (dG m s n (rd m 80 0 s)))) (rd m 80 0 s) n (bz (dG m s n (rd m 80 0 s)))) k 0 j := by
  unfold donC donF
  rw [rd_st_ne h80]
  exact rd_d8 _ _ _ _ _ _ _ _ _ _ _ ⟨by omega, h2⟩
theorem d12 (m : Mm) (w f : Int) (k : Nat) (j : Int) (hk : k ≠ 76) (h1 : k ≠ 40) : rd (d2 (d1 m w) f) k 0 j = rd m k 0 j := by
  unfold d2 d1
  rw [rd_st_ne h1, rd_st_ne hk]
theorem EF_don {m : Mm} {s n u : Int} (n0 : 0 ≤ n) (n1 : n < 30) (hv : 24 ≤ rd m 80 0 s → rd m 75 0 (rd m 80 0 s - 24) < 0) : EF n m (donC m s n u) := by
  refine ⟨fun t j t0 t1 j0 j1 hj => ?_, fun i i0 i1 => ?_⟩
  · rw [don_t _ _ _ _ 74 _ (by omega) (by omega) (by omega) (by omega), d6_74, d12 _ _ _ 74 _ (by omega) (by omega), d12 _ _ _ 74 _ (by omega) (by omega)]
    by_cases q : 23 < rd m 80 0 s ∨ bz (dG m s n (rd m 80 0 s)) = 0
    · rw [pif_t q]
    · rw [pif_f q]
      by_cases e : t = rd m 80 0 s
      · rw [if_pos e, e, tb_wr, tb_or, tb_shl j0 j1 n0 (by omega), decide_eq_false hj, Bool.or_false]
      · rw [if_neg e]
  · rw [don_t _ _ _ _ 75 _ (by omega) (by omega) (by omega) (by omega), d6_75, d12 _ _ _ 75 _ (by omega) (by omega)]
    by_cases q : 23 < rd m 80 0 s
    · rw [pif_t q]
      by_cases e : i = rd m 80 0 s - 24
      · rw [if_pos e, wr_of (by omega) (by omega), e]; exact Or.inr ⟨hv (by omega), rfl⟩
      · rw [if_neg e]; exact Or.inl rfl
    · rw [pif_f q]; exact Or.inl rfl
theorem EF_obs {a m : Mm} {x s n u : Int} (hT : rd m 40 0 25 ≤ 24) (hC : CRv 0 s a m x) (n0 : 0 ≤ n) (n1 : n < 30) : EF n m (siE m s n u) := by
  unfold siE
  by_cases q : rd m 80 0 s < 0
  · rw [pif_t q]; exact EF_same (fun j => rd_st_ne (by decide)) (fun j => rd_st_ne (by decide))
  · rw [pif_f q]
    have rm : ∀ (k : Nat) (i j : Int), k ≠ 81 ∧ k ≠ 82 → rd (si2 (si1 m s) s n u) k i j = rd m k i j := fun k i j hk => by unfold si2 si1; rw [rd_st_ne hk.2, rd_st_ne hk.1]
    have h1 : EF n m (si2 (si1 m s) s n u) := EF_same (fun j => rm _ _ _ (by decide)) (fun j => rm _ _ _ (by decide))
    refine EF_trans n0 h1 ?_
    unfold si3
    by_cases q2 : rd (si2 (si1 m s) s n u) 81 0 s = rd (si2 (si1 m s) s n u) 57 0 (rd (si2 (si1 m s) s n u) 80 0 s)
    · rw [pif_t q2]
      refine EF_don n0 n1 (fun h => ?_)
      rw [rm 80 _ _ (by decide)] at h ⊢
      rw [rm 75 _ _ (by decide)]
      rcases hC.2.2.1 with ⟨g1, -⟩ | ⟨g1, g2, g3⟩ | ⟨g1, g2, g3, g4, g5, g6, g7⟩
      · omega
      · omega
      · exact g7
    · rw [pif_f q2]; exact EF_same (fun j => rfl) (fun j => rfl)
theorem EF_site {a m : Mm} {x s n u : Int} (hP : PR a m) (hC : CR a m x) (hw : rd a 26 x 8 = 24 * n + u) (s0 : 0 ≤ s) (s1 : s < 3) (n0 : 0 ≤ n) (n1 : n < 30) (u0 : 0 ≤ u) (u1 : u < 24) : EF n m (siM m s n u) := by
  unfold siM
  by_cases q : msnC m s n u = 0
  · rw [pif_t q]
    have e : ∀ (k : Nat) j, k = 74 ∨ k = 75 → rd (siF (mclC m s (24 * n + u)) s) k 0 j = rd m k 0 j := fun k j hk => by unfold siF; rw [rd_st_ne (by omega)]; exact rd_mcl _ _ _ _ _ _ (by omega)
    exact EF_same (fun j => e _ _ (by decide)) (fun j => e _ _ (by decide))
  · rw [pif_f q]
    have c1 := alarm_step hP (CR_v hC s0 s1 (by decide)) hw s0 s1 n0 n1 u0 u1
    have p1 : PR (alertC a x (27 * x + s) s) (almC m s n u) := PR_of hP (fun k i j hk => rd_alert _ _ _ _ _ _ _ (by omega) (by omega)) (fun k i j hk => rd_alm _ _ _ _ _ _ _ (by omega))
    have w1 : rd (alertC a x (27 * x + s) s) 26 x 8 = 24 * n + u := (rd_alert _ _ _ _ _ _ _ (by omega) (by omega)).trans hw
    have c2 := resume_step p1 c1 w1 s0 s1 n0 n1 u0 u1
    have p2 : PR (st2 (alertC a x (27 * x + s) s) x s) (siB (almC m s n u) s n u) := PR_of p1 (fun k i j hk => rd_st2 _ _ _ _ _ _ (by omega)) (fun k i j hk => rd_siB _ _ _ _ _ _ _ (by omega))
    have w2 : rd (st2 (alertC a x (27 * x + s) s) x s) 26 x 8 = 24 * n + u := (rd_st2 _ _ _ _ _ _ (by omega)).trans w1
    have c3 := choose_step p2 c2 w2 s0 s1 n0 n1 u0 u1
    have p3 : PR (st3 (st2 (alertC a x (27 * x + s) s) x s) x s) (siD (siB (almC m s n u) s n u) s n u) := PR_of p2 (fun k i j hk => rd_st3 _ _ _ _ _ _ (by omega)) (fun k i j hk => rd_siD _ _ _ _ _ _ _ (by omega))
    have e : ∀ (k : Nat) j, k = 74 ∨ k = 75 → rd (siD (siB (siA m s n u) s n u) s n u) k 0 j = rd m k 0 j := fun k j hk => by
      rw [rd_siD _ _ _ _ _ _ _ (by omega), rd_siB _ _ _ _ _ _ _ (by omega)]; exact rd_alm _ _ _ _ _ _ _ (by omega)
    exact EF_trans n0 (EF_same (fun j => e _ _ (by decide)) (fun j => e _ _ (by decide))) (EF_obs p3.2.2.2.1.2 c3 n0 n1)
theorem EF_slot {a m : Mm} {x n u : Int} (hP : PR a m) (hx : x = 0 ∨ x = 1) (hC : CR a m x) (hw : rd a 26 x 8 = 24 * n + u) (n0 : 0 ≤ n) (n1 : n < 30) (u0 : 0 ≤ u) (u1 : u < 24) : EF n m (slM m n u) := by
  obtain ⟨c0, p0, w0⟩ := site_step hP hx hC hw (s := 0) (by decide) (by decide) n0 n1 u0 u1
  obtain ⟨c1, p1, w1⟩ := site_step p0 hx c0 w0 (s := 0 + 1) (by decide) (by decide) n0 n1 u0 u1
  have h := EF_trans n0 (EF_trans n0 (EF_site hP hC hw (s := 0) (by decide) (by decide) n0 n1 u0 u1) (EF_site p0 c0 w0 (s := 0 + 1) (by decide) (by decide) n0 n1 u0 u1)) (EF_site p1 c1 w1 (s := 0 + 1 + 1) (by decide) (by decide) n0 n1 u0 u1)
  unfold slM
  by_cases q : u = 23
  · rw [pif_t q]
    have e : ∀ (k : Nat) j, k = 74 ∨ k = 75 → rd (slE (slA m n u)) k 0 j = rd (slA m n u) k 0 j := fun k j hk => by
      unfold slE
      refine fori_mk (P := fun m9 => rd m9 k 0 j = rd (slA m n u) k 0 j) (fun t m9 h9 => (rd_slT _ _ _ _ _ (by omega) (by omega)).trans h9) _ _ _ ?_
      rw [rd_slB _ _ _ _ _ (by omega) (by omega), rd_slB _ _ _ _ _ (by omega) (by omega), rd_slB _ _ _ _ _ (by omega) (by omega)]
    exact EF_trans n0 h (EF_same (fun j => e _ _ (by decide)) (fun j => e _ _ (by decide)))
  · rw [pif_f q]; exact h
