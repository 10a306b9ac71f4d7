/-! ===== class and model side by side, V: the alarm's step ===== -/
def pushP (m : Mm) (s n u : Int) : Prop := 0 ≤ almR m s n u ∧ (rd m 80 0 s < 24 ∨ rd m 67 0 (rd m 80 0 s - 24) < rd m 67 0 (almR m s n u))
theorem almR_r (m : Mm) (s n u : Int) (hI : IM m) : dsc (almR m s n u) (rd m 40 0 30) (almP m s n u) (fun z => rd m 67 0 z) 0 := by
  have h0 : 0 ≤ rd m 40 0 30 := hI.2.2.1.1
  refine alm_spec m s n u _ _ _ (by omega) (Or.inl ⟨rfl, fun z z0 z1 => by omega⟩)
theorem alB_eq {a m : Mm} {x s9 s n u lo : Int} (hP : PR a m) (hC : CRv lo s9 a m x) (hw : rd a 26 x 8 = 24 * n + u) (s0 : 0 ≤ s) (s1 : s < 3) (n0 : 0 ≤ n) (n1 : n < 30) (u0 : 0 ≤ u) (u1 : u < 24) : (pushP m s n u → alB a x (27 * x + s) s = almR m s n u) ∧ (¬ pushP m s n u → alB a x (27 * x + s) s = -1) := by
  have hI := hP.2.2
  have hc0 : 0 ≤ rd m 40 0 30 := hI.2.2.1.1
  have hc1 : rd m 40 0 30 ≤ 10 := hI.2.2.1.2
  have hT : rd m 40 0 25 ≤ 24 := hI.2.1.2
  have e8 : rd a 5 0 8 = rd m 40 0 30 := hP.2.1.1.2.2
  have hU : ∀ z, 0 ≤ z → z < rd m 40 0 30 → rd a 19 z 9 = rd m 67 0 z ∧ 1 ≤ rd m 67 0 z := fun z z0 z1 => ⟨(hP.2.1.2.2.2.2.1 z z0 z1).2.2.1, (hP.2.1.2.2.2.2.1 z z0 z1).2.2.2.1⟩
  obtain ⟨w, hw0⟩ : ∃ w, pif (rd a 31 (27 * x + s) 0 = 2) (rd a 19 (rd a 31 (27 * x + s) 1) 9) 0 = w := ⟨_, rfl⟩
  have hww : (rd m 80 0 s < 24 ∧ w = 0) ∨ (24 ≤ rd m 80 0 s ∧ w = rd m 67 0 (rd m 80 0 s - 24)) := by
    obtain ⟨lo, hv⟩ := CRv_any hC s s0 s1
    rcases hv with ⟨h1, h2, h3, h4⟩ | ⟨h1, h2, h3, h4, h5, h6⟩ | ⟨h1, h2, h3, h4, h5, h6⟩
    · left; rw [pif_f (by omega)] at hw0; exact ⟨by omega, hw0.symm⟩
    · left; rw [pif_f (by omega)] at hw0; exact ⟨by omega, hw0.symm⟩
    · right; rw [pif_t h2, h3, (hU _ (by omega) (by omega)).1] at hw0; exact ⟨by omega, hw0.symm⟩
  have e1 : alB a x (27 * x + s) s = srch (fun i _ w => w < rd m 67 0 i ∧ almP m s n u i) (fun z => rd m 67 0 z) (rd m 40 0 30).toNat 0 (-1) w := by
    unfold alB
    rw [hw0, e8]
    exact srch_congr _ _ _ _ (fun z b w z0 z1 => alP_iff hP hC hw s0 s1 n0 n1 u0 u1 z0 (by omega)) (fun z z0 z1 => (hU z z0 (by omega)).1)
  rw [e1]
  have hN : ((rd m 40 0 30).toNat : Int) = rd m 40 0 30 := by omega
  have hA := asc_spec (almP m s n u) (fun z => rd m 67 0 z) (rd m 40 0 30).toNat 0 (-1) w
  have hD := almR_r m s n u hI
  generalize srch (fun i _ w => w < rd m 67 0 i ∧ almP m s n u i) (fun z => rd m 67 0 z) (rd m 40 0 30).toNat 0 (-1) w = r at hA ⊢
  unfold pushP
  generalize almR m s n u = q at hD ⊢
  dsimp only [dsc] at hD
  constructor
  · rintro ⟨q0, q1⟩
    rcases hD with ⟨d1, d2⟩ | ⟨d1, d2, d3, d4⟩
    · omega
    have hwq : w < rd m 67 0 q := by
      rcases hww with ⟨f1, f2⟩ | ⟨f1, f2⟩
      · have := (hU q d1.1 (by omega)).2; omega
      · rw [f2]; rcases q1 with g | g
        · omega
        · exact g
    rcases hA with ⟨b1, b2⟩ | ⟨b1, b2, b3, b4, b5⟩
    · have := b2 q d1.1 (by omega) d2; omega
    · rcases Int.lt_trichotomy r q with g | g | g
      · have := d4 r (by omega) g b2; have := b4 q d1.1 (by omega) d2; omega
      · exact g
      · have := b5 q (by omega) g d2; have := d3 r (by omega) (by omega) b2; omega
  · intro hn
    rcases hA with ⟨b1, b2⟩ | ⟨b1, b2, b3, b4, b5⟩
    · exact b1
    · exfalso
      rcases hD with ⟨d1, d2⟩ | ⟨d1, d2, d3, d4⟩
      · exact d2 r (by omega) (by omega) b2
      · refine hn ⟨by omega, ?_⟩
        have h3 := d3 r (by omega) (by omega) b2
        rcases hww with ⟨f1, f2⟩ | ⟨f1, f2⟩
        · exact Or.inl f1
        · right; rw [f2] at b3; omega
/-- a visit of the class begins -/
theorem rd_beg (mm : Mm) (v kd nm : Int) (hk : wr kd = kd) (hn : wr nm = nm) : rd (beginC mm v kd nm) 31 v 0 = kd ∧ rd (beginC mm v kd nm) 31 v 1 = nm ∧ rd (beginC mm v kd nm) 31 v 2 = 0 ∧ rd (beginC mm v kd nm) 31 v 3 = 0 := ⟨(rd_begin0 ..).trans hk, (rd_begin1 ..).trans hn, rd_begin2 .., rd_begin3 ..⟩
theorem rd_mbgs (m : Mm) (s x : Int) (hx : wr x = x) : rd (mbgC m s x) 80 0 s = x ∧ rd (mbgC m s x) 81 0 s = 0 ∧ rd (mbgC m s x) 82 0 s = 0 := by
  unfold mbgC
  refine ⟨?_, ?_, ?_⟩
  · rw [rd_st_ne (by decide), rd_st_ne (by decide), rd_st, if_pos ⟨rfl, rfl, rfl⟩, wr_wr, hx]
  · rw [rd_st_ne (by decide), rd_st, if_pos ⟨rfl, rfl, rfl⟩]; rfl
  · rw [rd_st, if_pos ⟨rfl, rfl, rfl⟩]; rfl
theorem rd_mbgo (m : Mm) (s x s' : Int) (h : s' ≠ s) (k : Nat) : rd (mbgC m s x) k 0 s' = rd m k 0 s' := by
  unfold mbgC
  rw [rd_st, if_neg (fun c => h c.2.2), rd_st, if_neg (fun c => h c.2.2), rd_st, if_neg (fun c => h c.2.2)]
theorem alarm_step {a m : Mm} {x s n u : Int} (hP : PR a m) (hC : CRv 1 s a m x) (hw : rd a 26 x 8 = 24 * n + u) (s0 : 0 ≤ s) (s1 : s < 3) (n0 : 0 ≤ n) (n1 : n < 30) (u0 : 0 ≤ u) (u1 : u < 24) : CRv 0 s (alertC a x (27 * x + s) s) (almC m s n u) x := by
  obtain ⟨p1, p2⟩ := alB_eq hP hC hw s0 s1 n0 n1 u0 u1
  have hI := hP.2.2
  have hc0 : 0 ≤ rd m 40 0 30 := hI.2.2.1.1
  have hc1 : rd m 40 0 30 ≤ 10 := hI.2.2.1.2
  obtain ⟨h1, h2, h3, h4, h5, h6⟩ := hC
  by_cases q : pushP m s n u
  · have eB := p1 q
    have hD := almR_r m s n u hI
    obtain ⟨r, hr⟩ : ∃ r, almR m s n u = r := ⟨_, rfl⟩
    have q0 : 0 ≤ almR m s n u := q.1
    rw [hr] at hD eB q0
    rcases hD with ⟨d1, d2⟩ | ⟨d1, d2, -, -⟩
    · omega
    have ha : alertC a x (27 * x + s) s = beginC (loseC a x (27 * x + s)) (27 * x + s) 2 r := by unfold alertC; rw [eB, pif_f (by omega)]
    have hm : almC m s n u = mbgC (pif (0 ≤ rd m 80 0 s) (mlsC m (rd m 80 0 s) (rd m 81 0 s)) m) s (24 + r) := by unfold almC; rw [← hr]; exact pif_t q
    have ra := fun (k : Nat) (i j : Int) (hk : ¬ (k = 31 ∧ i = 27 * x + s)) (hk2 : k ≠ 32) => rd_alert a x (27 * x + s) s k i j hk hk2
    have rm := fun (k : Nat) (i j : Int) (hk : k ≠ 77 ∧ k ≠ 80 ∧ k ≠ 81 ∧ k ≠ 82) => rd_alm m s n u k i j hk
    have rmo : ∀ s', s' ≠ s → ∀ k, k ≠ 77 → rd (almC m s n u) k 0 s' = rd m k 0 s' := fun s' hs k hk => by
      rw [hm, rd_mbgo _ _ _ _ hs]
      by_cases q2 : 0 ≤ rd m 80 0 s
      · rw [pif_t q2]; exact rd_mls _ _ _ _ _ _ hk
      · rw [pif_f q2]
    have hgo := d2.2.1
    refine ⟨bkR_of h1 (fun k j k0 k1 => ra k _ j (by omega) (by omega)) (fun k j k0 k1 => rm k _ j (by omega)), fun s' g0 g1 hs => ?_, ?_, fun t t0 t1 => ?_, ?_, ?_⟩
    · exact vR_of (h2 s' g0 g1 hs) (fun j _ _ => ra 31 _ j (by omega) (by decide)) (rmo s' hs 80 (by decide)) (rmo s' hs 81 (by decide)) (rmo s' hs 82 (by decide)) (fun t => rm 57 0 t (by decide)) (fun _ g => by rw [rm 75 0 _ (by decide)]; exact g) (rm 40 0 25 (by decide)) (rm 40 0 30 (by decide))
    · obtain ⟨b0, b1, b2, b3⟩ := rd_beg (loseC a x (27 * x + s)) (27 * x + s) 2 r rfl (wr_of (by omega) (by omega))
      obtain ⟨f0, f1, f2⟩ := rd_mbgs (pif (0 ≤ rd m 80 0 s) (mlsC m (rd m 80 0 s) (rd m 81 0 s)) m) s (24 + r) (wr_of (by omega) (by omega))
      rw [← ha] at b0 b1 b2 b3
      rw [← hm] at f0 f1 f2
      right; right
      rw [f0, f1, f2, b0, b1, b2, b3, rm 40 0 30 (by decide), rm 57 0 _ (by decide), rm 75 0 _ (by decide)]
      have hl := (hP.2.1.2.2.2.2.1 r (by omega) (by omega)).1.2.2.2.2.2.2.2.2
      refine ⟨by omega, rfl, by omega, rfl, rfl, ⟨by decide, by omega⟩, ?_⟩
      rw [show 24 + r - 24 = r by omega]; exact d2.1
    · exact wR_of (h4 t t0 t1) (fun j => ra 31 _ j (by omega) (by decide)) (rm 83 0 t (by decide)) (rm 84 0 t (by decide)) (rm 85 0 t (by decide)) (rm 57 0 t (by decide)) (rm 40 0 25 (by decide))
    · have f0 := (rd_mbgs (pif (0 ≤ rd m 80 0 s) (mlsC m (rd m 80 0 s) (rd m 81 0 s)) m) s (24 + r) (wr_of (by omega) (by omega))).1
      rw [← hm] at f0
      have hg3 : ∀ s', 0 ≤ s' → s' < 3 → rd m 80 0 s' ≠ 24 + r := fun s' z0 z1 c => hgo (by
        unfold goP
        rcases (show s' = 0 ∨ s' = 1 ∨ s' = 2 by omega) with rfl | rfl | rfl
        · exact Or.inl c
        · exact Or.inr (Or.inl c)
        · exact Or.inr (Or.inr c))
      intro z z' z0 z1 z2 z3 hne hz
      by_cases e : z = s
      · rw [e] at hne ⊢
        rw [f0, rmo z' (fun c => hne c.symm) 80 (by decide)]
        exact fun c => hg3 z' z2 z3 c.symm
      · rw [rmo z e 80 (by decide)] at hz ⊢
        by_cases e2 : z' = s
        · rw [e2, f0]; exact hg3 z z0 z1
        · rw [rmo z' e2 80 (by decide)]; exact h5 z z' z0 z1 z2 z3 hne hz
    · refine zR_of2 h6 (fun k j hk => ra k _ j (by omega) (by omega)) (ra 26 _ 9 (by omega) (by decide)) (fun k j hk => rm k _ j (by omega)) (fun hx ho => ?_) (fun hx ho s' g0 g1 => ?_)
      · subst hx
        intro g g0 g1
        rw [ha, hm, rd_begin _ _ _ _ _ _ _ (by omega), rd_mbg _ _ _ _ _ _ (by decide)]
        exact lose_32 hP h3 ho g g0 g1
      · rw [ra 33 _ _ (by omega) (by decide), ra 34 _ _ (by omega) (by decide), rm 78 _ _ (by decide), rm 79 _ _ (by decide)]
        exact ho s' g0 g1
  · have eB := p2 q
    have ha : alertC a x (27 * x + s) s = a := by unfold alertC; rw [pif_t eB]
    have hm : almC m s n u = m := by unfold almC; exact pif_f q
    rw [ha, hm]
    exact ⟨h1, h2, vR_lo h3 (by decide), h4, h5, h6⟩
