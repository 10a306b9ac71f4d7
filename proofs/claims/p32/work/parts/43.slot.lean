/-! ===== what holds of a course, IV: observed; a slot ===== -/
theorem UQ_same {a a' : Mm} {x : Int} (h : UQ a x) (ho : ∀ w j, j = 0 ∨ j = 1 → rd a' 31 w j = rd a 31 w j) : UQ a' x := by
  unfold UQ at h ⊢
  simp only [fun w => ho w 0 (Or.inl rfl), fun w => ho w 1 (Or.inr rfl)]
  exact h
theorem JC_obs {a : Mm} {x v i N : Int} (h : JC a x N) (hN : N < 2160) (v0 : 27 * x ≤ v) (v1 : v < 27 * x + 3) (hk0 : ¬ rd a 31 v 0 = 0) (w0 : 0 ≤ rd a 26 x 8) (w1 : rd a 26 x 8 < 720) (i0 : 0 ≤ i) (i1 : i < 3) (hs : ¬ seenC a i (rd a 26 x 8) = 0) : JC (obsvC a x v i) x (N + 1) := by
  obtain ⟨⟨hI, hC, hNN, hV, hU, hT⟩, hP, hD⟩ := h
  have hIC := IC_obsv (i := i) hC hI v0 v1
  have hvo := vOK_in hC v0 (by omega)
  have hpre : vPre a v := by
    by_cases q : rd a 31 v 0 = 1
    · obtain ⟨n0, n1, -⟩ := hvo.1 q
      exact Or.inl ⟨q, n0, n1⟩
    · exact Or.inr (hvo.2 hk0 q)
  have hsee : 1 ≤ seenC a i (rd a 26 x 8) ∧ seenC a i (rd a 26 x 8) ≤ 50 := by
    have h12 := hP.2.2.1 i (rd a 26 x 8) i0 i1 w0 w1
    unfold seenC at hs ⊢
    split
    · rename_i q
      rw [if_pos q] at hs
      omega
    · rename_i q
      rw [if_neg q] at hs
      exact absurd rfl hs
  obtain ⟨u0, -, u2, u3, u4⟩ := hV v v0 (by omega)
  have n25 := sm_nn (f := fun g => rd a 25 (30 + x) g) 4 (fun g g0 g1 => (hNN.1 g g0 g1).1)
  have n32 := sm_nn (f := fun g => rd a 32 x g) 4 (fun g g0 g1 => (hNN.1 g g0 g1).2)
  have n33 := sm_nn (f := fun s => rd a 33 x s) 3 (fun s s0 s1 => (hNN.2 s s0 s1).1)
  have n34 := sm_nn (f := fun s => rd a 34 x s) 3 (fun s s0 s1 => (hNN.2 s s0 s1).2)
  have l31 := sm_le (f := fun i => rd a 31 (27 * x + i) 2) (v := v - 27 * x) 27 (fun i i0 i1 => (hV _ (by omega) (by omega)).1) (by omega) (by omega)
  simp only [show 27 * x + (v - 27 * x) = v by omega] at l31
  have hT' := hT
  unfold TOT at hT'
  unfold obsvC at hIC ⊢
  have b2 : rd (ob2 (ob1 a v) x v i) 31 v 2 = rd a 31 v 2 + 1 := by rw [rd_ob2]; exact wr_of (by omega) (by omega)
  have b3 : 1 ≤ rd (ob2 (ob1 a v) x v i) 31 v 3 ∧ rd (ob2 (ob1 a v) x v i) 31 v 3 ≤ 50 := by
    have e1 : rd (ob1 a v) 31 v 3 = rd a 31 v 3 := by unfold ob1; rw [rd_st, if_neg (by omega)]
    have e2 : rd (ob1 a v) 26 x 8 = rd a 26 x 8 := rd_st_ne (by decide)
    have e3 : seenC (ob1 a v) i (rd a 26 x 8) = seenC a i (rd a 26 x 8) := by
      unfold seenC ob1
      rw [rd_st_ne (by decide), rd_st_ne (by decide)]
    unfold ob2
    rw [rd_st, if_pos ⟨rfl, rfl, rfl⟩, wr_wr, e1, e2, e3]
    unfold jmax
    rw [wr_rd, wr_seenC]
    split
    · rw [wr_seenC]; omega
    · rw [wr_rd]; omega
  have ro : ∀ (k : Nat) p j, ¬ (k = 31 ∧ p = v ∧ (j = 2 ∨ j = 3)) → rd (ob2 (ob1 a v) x v i) k p j = rd a k p j := fun k p j h => rd_ob _ _ _ _ _ _ _ h
  generalize hb : ob2 (ob1 a v) x v i = b at *
  have hk : ∀ (k : Nat) p j, k ≠ 31 → rd b k p j = rd a k p j := fun k p j e => ro k p j (fun q => e q.1)
  have ho : ∀ w j, w ≠ v → rd b 31 w j = rd a 31 w j := fun w j e => ro _ _ _ (fun q => e q.2.1)
  have k0 : rd b 31 v 0 = rd a 31 v 0 := ro _ _ _ (by omega)
  have k1 : rd b 31 v 1 = rd a 31 v 1 := ro _ _ _ (by omega)
  have hPb : PX b := PX_of hP (fun k p j e => hk k p j (by omega))
  have hDb : DA b x := DA_of hD (hk _ _ _ (by decide)) (fun t => hk _ _ _ (by decide)) (hk _ _ _ (by decide)) (fun z => hk _ _ _ (by decide))
  have hIb : IA b := IA_of hI (fun k p j e => hk k p j (by omega))
  by_cases q : rd b 31 v 2 < aimF b v 3
  · rw [pif_t q] at hIC ⊢
    have hS := S31_one (x := x) ho v0 (by omega)
    rw [b2] at hS
    refine ⟨⟨hIb, hIC, NN_vis hNN (fun g => hk _ _ _ (by decide)) (fun g => hk _ _ _ (by decide)) (fun g => hk _ _ _ (by decide)) (fun g => hk _ _ _ (by decide)), VV_one hV ho (hk _ _ _ (by decide)) ?_, UQ_same hU (fun w j e => ro _ _ _ (by omega)), ?_⟩, hPb, hDb⟩
    · unfold VW
      rw [b2, k0, k1, hk 5 0 7 (by decide)]
      exact ⟨by omega, fun q => absurd q hk0, u2, by omega, b3.2⟩
    · unfold TOT
      simp only [hk 25 _ _ (by decide), hk 32 _ _ (by decide), hk 33 _ _ (by decide), hk 34 _ _ (by decide)]
      rw [hS]
      omega
  · rw [pif_f q] at hIC ⊢
    have eg : grpC b v = grpC a v := by
      unfold grpC
      rw [k0, k1, hk 18 _ _ (by decide), hk 19 _ _ (by decide)]
    obtain ⟨g0, g1⟩ := grp_r hI hvo hk0
    have fo : ∀ (k : Nat) p j, finS k → ¬ (k = 31 ∧ p = v) → ¬ (k = 26 ∧ j = 9) → rd (finC b x v i) k p j = rd b k p j := fun k p j h1 h2 h3 => rd_fin _ _ _ _ _ _ _ h1 h2 h3
    have f31 : ∀ w j, w ≠ v → rd (finC b x v i) 31 w j = rd a 31 w j := fun w j e => (fo _ _ _ (by unfold finS; decide) (fun q => e q.2) (by omega)).trans (ho w j e)
    have f20 : ∀ (k : Nat) p j, k < 20 → rd (finC b x v i) k p j = rd a k p j := fun k p j e => (fo _ _ _ (by unfold finS; omega) (by omega) (by omega)).trans (hk k p j (by omega))
    have f32 : ∀ (k : Nat) p j, k = 32 ∨ k = 33 ∨ k = 34 → rd (finC b x v i) k p j = rd a k p j := fun k p j e => (fo _ _ _ (by unfold finS; omega) (by omega) (by omega)).trans (hk k p j (by omega))
    have f25 : ∀ g, rd (finC b x v i) 25 (30 + x) g = if g = grpC a v then wr (rd a 25 (30 + x) (grpC a v) + (rd a 31 v 2 + 1)) else rd a 25 (30 + x) g := fun g => by
      rw [fin_25, eg, b2, hk 25 _ _ (by decide), hk 25 _ _ (by decide)]
      by_cases e : g = grpC a v
      · rw [if_pos ⟨rfl, e⟩, if_pos e]
      · rw [if_neg (fun q => e q.2), if_neg e]
    have c0 : rd (finC b x v i) 31 v 0 = 0 := rd_fin0 _ _ _ _
    have c2 : rd (finC b x v i) 31 v 2 = 0 := by unfold finC fin4; rw [rd_begin2]
    have c3 : rd (finC b x v i) 31 v 3 = 0 := by unfold finC fin4; rw [rd_begin3]
    have l25 := sm_le (f := fun g => rd a 25 (30 + x) g) (v := grpC a v) 4 (fun g g0 g1 => (hNN.1 g g0 g1).1) g0 g1
    have p25 := (hNN.1 _ g0 g1).1
    have ew : wr (rd a 25 (30 + x) (grpC a v) + (rd a 31 v 2 + 1)) = rd a 25 (30 + x) (grpC a v) + (rd a 31 v 2 + 1) := wr_of (by omega) (by omega)
    have hS := S31_one (x := x) f31 v0 (by omega)
    rw [c2] at hS
    have hG : sm (fun g => rd (finC b x v i) 25 (30 + x) g) 4 = sm (fun g => rd a 25 (30 + x) g) 4 - rd a 25 (30 + x) (grpC a v) + rd (finC b x v i) 25 (30 + x) (grpC a v) := sm_upd (f := fun g => rd a 25 (30 + x) g) (g := fun g => rd (finC b x v i) 25 (30 + x) g) (v := grpC a v) 4 (fun g _ _ e => by
      show rd (finC b x v i) 25 (30 + x) g = rd a 25 (30 + x) g
      rw [f25, if_neg e]) g0 g1
    rw [show rd (finC b x v i) 25 (30 + x) (grpC a v) = rd a 25 (30 + x) (grpC a v) + (rd a 31 v 2 + 1) by rw [f25, if_pos rfl, ew]] at hG
    refine ⟨⟨IA_of hI (fun k p j e => f20 k p j e), hIC, ⟨fun g q0 q1 => ⟨?_, ?_⟩, fun s s0 s1 => ?_⟩, VV_one hV f31 (f20 _ _ _ (by decide)) ?_, UQ_off hU f31 (by rw [c0]; decide) (fun q => absurd q (by omega)), ?_⟩, PX_of hP (fun k p j e => f20 k p j e), DA_fin hPb hDb ?_ ?_ ?_ ?_ b3.1 b3.2⟩
    · rw [f25]
      split
      · rw [ew]; omega
      · exact (hNN.1 g q0 q1).1
    · rw [f32 _ _ _ (by omega)]; exact (hNN.1 g q0 q1).2
    · rw [f32 _ _ _ (by omega), f32 _ _ _ (by omega)]; exact hNN.2 s s0 s1
    · unfold VW
      rw [c0, c2, c3]
      exact ⟨Int.le_refl _, fun _ => rfl, fun q => absurd q (by decide), Int.le_refl _, by decide⟩
    · unfold TOT
      simp only [f32 32 _ _ (by omega), f32 33 _ _ (by omega), f32 34 _ _ (by omega)]
      rw [hS, hG]
      omega
    · unfold vPre at hpre ⊢
      rw [k0, k1]; exact hpre
    · rw [k0, k1, hk 5 0 7 (by decide)]; exact u2
    · rw [hk 26 _ _ (by decide)]; exact w0
    · rw [hk 26 _ _ (by decide)]; exact w1
/-- one of the counters of lost slots goes up -/
theorem JC_up {a : Mm} {x s N : Int} {k : Nat} (h : JC a x N) (hN : N < 2160) (hk : k = 33 ∨ k = 34) (s0 : 0 ≤ s) (s1 : s < 3) : JC (st a k x s (wr (rd a k x s + 1))) x (N + 1) := by
  obtain ⟨⟨hI, hC, hNN, hV, hU, hT⟩, hP, hD⟩ := h
  have ro : ∀ (q : Nat) p j, q ≠ k → rd (st a k x s (wr (rd a k x s + 1))) q p j = rd a q p j := fun q p j e => rd_st_ne e
  have n25 := sm_nn (f := fun g => rd a 25 (30 + x) g) 4 (fun g g0 g1 => (hNN.1 g g0 g1).1)
  have n32 := sm_nn (f := fun g => rd a 32 x g) 4 (fun g g0 g1 => (hNN.1 g g0 g1).2)
  have n33 := sm_nn (f := fun s => rd a 33 x s) 3 (fun s s0 s1 => (hNN.2 s s0 s1).1)
  have n34 := sm_nn (f := fun s => rd a 34 x s) 3 (fun s s0 s1 => (hNN.2 s s0 s1).2)
  have n31 := sm_nn (f := fun v => rd a 31 (27 * x + v) 2) 27 (fun v v0 v1 => (hV _ (by omega) (by omega)).1)
  have l33 := sm_le (f := fun s => rd a 33 x s) (v := s) 3 (fun s s0 s1 => (hNN.2 s s0 s1).1) s0 s1
  have l34 := sm_le (f := fun s => rd a 34 x s) (v := s) 3 (fun s s0 s1 => (hNN.2 s s0 s1).2) s0 s1
  have p3 := hNN.2 s s0 s1
  have hT' := hT
  unfold TOT at hT'
  have ew : wr (rd a k x s + 1) = rd a k x s + 1 := by
    rcases hk with rfl | rfl <;> exact wr_of (by omega) (by omega)
  have hk1 : rd (st a k x s (wr (rd a k x s + 1))) k x s = rd a k x s + 1 := by rw [rd_st, if_pos ⟨rfl, rfl, rfl⟩, wr_wr, ew]
  have hk2 : ∀ j, j ≠ s → rd (st a k x s (wr (rd a k x s + 1))) k x j = rd a k x j := fun j e => by rw [rd_st, if_neg (fun q => e q.2.2)]
  generalize st a k x s (wr (rd a k x s + 1)) = b at *
  have hU3 : sm (fun j => rd b k x j) 3 = sm (fun j => rd a k x j) 3 - rd a k x s + rd b k x s := sm_upd (f := fun j => rd a k x j) (g := fun j => rd b k x j) (v := s) 3 (fun j _ _ e => hk2 j e) s0 s1
  rw [hk1] at hU3
  have nn : ∀ (q : Nat), q = 33 ∨ q = 34 → ∀ j, 0 ≤ j → j < 3 → 0 ≤ rd b q x j := fun q hq j j0 j1 => by
    have h9 := hNN.2 j j0 j1
    by_cases e : q = k
    · subst e
      by_cases e2 : j = s
      · rw [e2, hk1]
        rcases hk with rfl | rfl <;> omega
      · rw [hk2 j e2]
        rcases hk with rfl | rfl <;> omega
    · rw [ro _ _ _ e]
      rcases hq with rfl | rfl <;> omega
  refine ⟨⟨IA_of hI (fun q p j e => ro _ _ _ (by omega)), IC_same hC (fun w j => ro _ _ _ (by omega)) (fun t => ro _ _ _ (by omega)) (by rw [ro _ _ _ (by omega)]; exact hC.2.2), ⟨fun g g0 g1 => ?_, fun j j0 j1 => ⟨nn 33 (Or.inl rfl) j j0 j1, nn 34 (Or.inr rfl) j j0 j1⟩⟩, fun v v0 v1 => ?_, UQ_same hU (fun w j _ => ro _ _ _ (by omega)), ?_⟩, PX_of hP (fun q p j e => ro _ _ _ (by omega)), DA_of hD (ro _ _ _ (by omega)) (fun t => ro _ _ _ (by omega)) (ro _ _ _ (by omega)) (fun z => ro _ _ _ (by omega))⟩
  · rw [ro _ _ _ (by omega), ro _ _ _ (by omega)]; exact hNN.1 g g0 g1
  · have h9 := hV v v0 v1
    unfold VW at h9 ⊢
    rw [ro _ _ _ (by omega), ro _ _ _ (by omega), ro _ _ _ (by omega), ro _ _ _ (by omega), ro _ _ _ (by omega)]
    exact h9
  · unfold TOT
    simp only [ro 25 _ _ (by omega), ro 32 _ _ (by omega), ro 31 _ _ (by omega)]
    rcases hk with rfl | rfl
    · simp only [ro 34 _ _ (by omega)]
      rw [hU3]; omega
    · simp only [ro 33 _ _ (by omega)]
      rw [hU3]; omega
/-- what only the visits change -/
theorem JC_vis {a b : Mm} {x N : Int} (h : JC a x N) (hb : CJ b x N) (hk : ∀ (k : Nat) i j, k ≠ 31 → k ≠ 32 → rd b k i j = rd a k i j) : JC b x N :=
  ⟨hb, PX_of h.2.1 (fun k i j e => hk _ _ _ (by omega) (by omega)), DA_of h.2.2 (hk _ _ _ (by decide) (by decide)) (fun t => hk _ _ _ (by decide) (by decide)) (hk _ _ _ (by decide) (by decide)) (fun z => hk _ _ _ (by decide) (by decide))⟩
theorem JC_site {a : Mm} {x i N : Int} (h : JC a x N) (hN : N < 2160) (i0 : 0 ≤ i) (i1 : i < 3) (w0 : 0 ≤ rd a 26 x 8) (w1 : rd a 26 x 8 < 720) : JC (siteC a x i) x (N + 1) := by
  unfold siteC
  by_cases q : seenC a i (rd a 26 x 8) = 0
  · rw [pif_t q]
    unfold stB
    exact JC_up (JC_vis h (CJ_break h.1 (by omega) (by omega) (by omega)) (fun k p j e e' => rd_break _ _ _ _ _ _ e e')) hN (Or.inl rfl) i0 i1
  · rw [pif_f q]
    have h1 : JC (alertC a x (27 * x + i) i) x N := JC_vis h (CJ_alert h.1 (by omega) (by omega) (by omega)) (fun k p j e e' => rd_alert _ _ _ _ _ _ _ (fun z => e z.1) e')
    have k1 : ∀ (k : Nat) p j, k ≠ 31 → k ≠ 32 → rd (alertC a x (27 * x + i) i) k p j = rd a k p j := fun k p j e e' => rd_alert _ _ _ _ _ _ _ (fun z => e z.1) e'
    generalize alertC a x (27 * x + i) i = m1 at *
    have h2 : JC (st2 m1 x i) x N := by
      unfold st2
      by_cases q2 : rd m1 31 (27 * x + i) 0 = 0
      · rw [pif_t q2]
        exact JC_vis h1 (CJ_resume h1.1 (by omega) (by omega) q2) (fun k p j e _ => rd_resume _ _ _ _ _ _ _ e)
      · rw [pif_f q2]; exact h1
    have k2 : ∀ (k : Nat) p j, k ≠ 31 → rd (st2 m1 x i) k p j = rd m1 k p j := fun k p j e => rd_st2 _ _ _ _ _ _ e
    generalize st2 m1 x i = m2 at *
    have h3 : JC (st3 m2 x i) x N := by
      unfold st3
      by_cases q3 : rd m2 31 (27 * x + i) 0 = 0
      · rw [pif_t q3]
        exact JC_vis h2 (CJ_target h2.1 (by omega) (by omega) q3) (fun k p j e _ => rd_target _ _ _ _ _ _ _ (fun z => e z.1))
      · rw [pif_f q3]; exact h2
    have k3 : ∀ (k : Nat) p j, k ≠ 31 → rd (st3 m2 x i) k p j = rd m2 k p j := fun k p j e => rd_st3 _ _ _ _ _ _ e
    generalize st3 m2 x i = m3 at *
    have e26 : rd m3 26 x 8 = rd a 26 x 8 := by rw [k3 _ _ _ (by decide), k2 _ _ _ (by decide), k1 _ _ _ (by decide) (by decide)]
    have es : seenC m3 i (rd m3 26 x 8) = seenC a i (rd a 26 x 8) := by
      rw [e26]
      unfold seenC
      rw [k3 _ _ _ (by decide), k2 _ _ _ (by decide), k1 _ _ _ (by decide) (by decide), k3 _ _ _ (by decide), k2 _ _ _ (by decide), k1 _ _ _ (by decide) (by decide)]
    unfold st4
    by_cases q4 : rd m3 31 (27 * x + i) 0 = 0
    · rw [pif_t q4]
      exact JC_up h3 hN (Or.inr rfl) i0 i1
    · rw [pif_f q4]
      exact JC_obs h3 hN (by omega) (by omega) q4 (by rw [e26]; exact w0) (by rw [e26]; exact w1) i0 i1 (by rw [es]; exact q)
theorem JC_en {a : Mm} {x N : Int} (h : JC a x N) (hN : N ≤ 2160) : JC (enC a x) x N := by
  refine JC_vis h ?_ (fun k i j e e' => rd_en _ _ _ _ _ ⟨e, e'⟩)
  unfold enC
  refine fori_keep (P := fun m => CJ m x N) 0 24 (fun t m t0 t1 hm => CJ_lose hm hN (by omega) (by omega)) 24 0 _ (by decide) (by decide) ?_
  exact CJ_lose (CJ_lose (CJ_lose h.1 hN (by omega) (by omega)) hN (by omega) (by omega)) hN (by omega) (by omega)
theorem JC_tick {a : Mm} {x N : Int} (h : JC a x N) : JC (tick a x) x N := by
  obtain ⟨⟨hI, hC, hNN, hV, hU, hT⟩, hP, hD⟩ := h
  have ro : ∀ (q : Nat) p j, q ≠ 26 → rd (tick a x) q p j = rd a q p j := fun q p j e => rd_st_ne e
  refine ⟨⟨IA_of hI (fun q p j e => ro _ _ _ (by omega)), IC_same hC (fun w j => ro _ _ _ (by omega)) (fun t => ro _ _ _ (by omega)) (by rw [ro _ _ _ (by omega)]; exact hC.2.2), NN_vis hNN (fun g => ro _ _ _ (by decide)) (fun g => ro _ _ _ (by decide)) (fun g => ro _ _ _ (by decide)) (fun g => ro _ _ _ (by decide)), fun v v0 v1 => ?_, UQ_same hU (fun w j _ => ro _ _ _ (by omega)), ?_⟩, PX_of hP (fun q p j e => ro _ _ _ (by omega)), DA_of hD (ro _ _ _ (by omega)) (fun t => ro _ _ _ (by omega)) (ro _ _ _ (by omega)) (fun z => ro _ _ _ (by omega))⟩
  · have h9 := hV v v0 v1
    unfold VW at h9 ⊢
    rw [ro _ _ _ (by omega), ro _ _ _ (by omega), ro _ _ _ (by omega), ro _ _ _ (by omega), ro _ _ _ (by omega)]
    exact h9
  · rw [TOT_vis (fun g => ro _ _ _ (by decide)) (fun g => ro _ _ _ (by decide)) (fun g => ro _ _ _ (by decide)) (fun g => ro _ _ _ (by decide)) (sm_congr 27 (fun v _ _ => ro _ _ _ (by decide)))]
    exact hT
theorem JC_slot {a : Mm} {x N : Int} (h : JC a x N) (hN : N + 3 ≤ 2160) (w0 : 0 ≤ rd a 26 x 8) (w1 : rd a 26 x 8 < 720) : JC (slotC a x) x (N + 3) := by
  have h1 := JC_site (i := 0) h (by omega) (by decide) (by decide) w0 w1
  have e1 : rd (siteC a x 0) 26 x 8 = rd a 26 x 8 := rd_site _ _ _ _ _ _ lv268
  have h2 := JC_site (i := 0 + 1) h1 (by omega) (by decide) (by decide) (by rw [e1]; exact w0) (by rw [e1]; exact w1)
  have e2 : rd (siteC (siteC a x 0) x (0 + 1)) 26 x 8 = rd a 26 x 8 := (rd_site _ _ _ _ _ _ lv268).trans e1
  have h3 := JC_site (i := 0 + 1 + 1) h2 (by omega) (by decide) (by decide) (by rw [e2]; exact w0) (by rw [e2]; exact w1)
  have h4 : JC (tick (sitesC a x) x) x (N + 3) := by
    rw [show N + 3 = N + 1 + 1 + 1 by omega]
    exact JC_tick h3
  unfold slotC
  by_cases q : jrem (rd (tick (sitesC a x) x) 26 x 8) 24 = 0
  · rw [pif_t q]; exact JC_en h4 hN
  · rw [pif_f q]; exact h4
