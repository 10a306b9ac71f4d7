/-! ===== what holds of a course, II: visits that begin, break off, go on ===== -/
theorem UQ_on {a a' : Mm} {x v : Int} (h : UQ a x) (ho : ∀ w j, w ≠ v → rd a' 31 w j = rd a 31 w j) (v0 : 27 * x ≤ v) (v1 : v < 27 * x + 3) (h3 : 0 ≤ rd a' 31 v 1 → rd a' 31 v 1 < 24 → rd a 31 (27 * x + 3 + rd a' 31 v 1) 0 = 0) (hu : ∀ s, 0 ≤ s → s < 3 → 27 * x + s ≠ v → rd a 31 (27 * x + s) 0 = 1 → ¬ rd a 31 (27 * x + s) 1 = rd a' 31 v 1) : UQ a' x := by
  refine ⟨fun s t s0 s1 t0 t1 hk hn => ?_, fun s s' s0 s1 q0 q1 hne hk hk' => ?_⟩
  · rw [ho (27 * x + 3 + t) 0 (by omega)]
    by_cases e : 27 * x + s = v
    · rw [e] at hn
      have := h3 (by omega) (by omega)
      rw [hn] at this
      exact this
    · rw [ho _ _ e] at hk hn
      exact h.1 s t s0 s1 t0 t1 hk hn
  · by_cases e : 27 * x + s = v
    · have e' : 27 * x + s' ≠ v := by omega
      rw [ho _ _ e'] at hk' ⊢
      rw [e]
      exact fun q => hu s' q0 q1 e' hk' q.symm
    · rw [ho _ _ e] at hk ⊢
      by_cases e' : 27 * x + s' = v
      · rw [e']
        exact hu s s0 s1 e hk
      · rw [ho _ _ e'] at hk' ⊢
        exact h.2 s s' s0 s1 q0 q1 hne hk hk'
/-- sums outside the visits -/
theorem TOT_vis {a a' : Mm} {x : Int} (h25 : ∀ g, rd a' 25 (30 + x) g = rd a 25 (30 + x) g) (h32 : ∀ g, rd a' 32 x g = rd a 32 x g) (h33 : ∀ g, rd a' 33 x g = rd a 33 x g) (h34 : ∀ g, rd a' 34 x g = rd a 34 x g) (hS : sm (fun i => rd a' 31 (27 * x + i) 2) 27 = sm (fun i => rd a 31 (27 * x + i) 2) 27) : TOT a' x = TOT a x := by
  unfold TOT
  simp only [h25, h32, h33, h34, hS]
theorem NN_vis {a a' : Mm} {x : Int} (h : NN a x) (h25 : ∀ g, rd a' 25 (30 + x) g = rd a 25 (30 + x) g) (h32 : ∀ g, rd a' 32 x g = rd a 32 x g) (h33 : ∀ g, rd a' 33 x g = rd a 33 x g) (h34 : ∀ g, rd a' 34 x g = rd a 34 x g) : NN a' x := by
  unfold NN at h ⊢
  simp only [h25, h32, h33, h34]
  exact h
/-- an idle visit of a site begins -/
theorem CJ_begin {a : Mm} {x v kd nm N : Int} (h : CJ a x N) (v0 : 27 * x ≤ v) (v1 : v < 27 * x + 3) (hid : rd a 31 v 0 = 0) (hkd : kd = 1 ∧ (0 ≤ nm ∧ nm < 24 ∧ nm < rd a 5 0 7 ∧ rd a 31 (27 * x + 3 + nm) 0 = 0 ∧ ¬ obsC a x 1 nm) ∨ kd = 2 ∧ 0 ≤ nm ∧ nm < 10) : CJ (beginC a v kd nm) x N := by
  obtain ⟨hI, hC, hNN, hV, hU, hT⟩ := h
  have ho : ∀ w j, w ≠ v → rd (beginC a v kd nm) 31 w j = rd a 31 w j := fun w j e => rd_begin _ _ _ _ _ _ _ (fun q => e q.2)
  have hk : ∀ (k : Nat) i j, k ≠ 31 → rd (beginC a v kd nm) k i j = rd a k i j := fun k i j e => rd_begin _ _ _ _ _ _ _ (fun q => e q.1)
  have w1 : wr kd = kd := wr_of (by omega) (by omega)
  have w2 : wr nm = nm := wr_of (by omega) (by omega)
  have hI' : IA (beginC a v kd nm) := IA_of hI (fun k i j e => hk k i j (by omega))
  obtain ⟨u0, u1, -⟩ := hV v v0 (by omega)
  have hS := S31_one (x := x) ho v0 (by omega)
  rw [rd_begin2, u1 hid] at hS
  refine ⟨hI', IC_begin hC v1 ?_, NN_vis hNN (fun g => hk _ _ _ (by decide)) (fun g => hk _ _ _ (by decide)) (fun g => hk _ _ _ (by decide)) (fun g => hk _ _ _ (by decide)), VV_one hV ho (hk _ _ _ (by decide)) ?_, ?_, ?_⟩
  · unfold vOK
    rw [rd_begin0, rd_begin1, rd_begin2, w1, w2]
    rcases hkd with ⟨rfl, n0, n1, -⟩ | ⟨rfl, n0, n1⟩
    · refine ⟨fun _ => ⟨n0, n1, Int.le_refl _, ?_⟩, fun _ q => absurd rfl q⟩
      exact (hI'.1 nm n0 n1).2.1.1
    · exact ⟨fun q => absurd q (by decide), fun _ _ => ⟨rfl, n0, n1⟩⟩
  · unfold VW
    rw [rd_begin0, rd_begin1, rd_begin2, rd_begin3, w1, w2, hk 5 0 7 (by decide)]
    refine ⟨Int.le_refl _, fun _ => rfl, fun q => ?_, Int.le_refl _, by decide⟩
    rcases hkd with ⟨-, -, -, h5, -⟩ | ⟨rfl, -⟩
    · exact h5
    · exact absurd q (by decide)
  · rcases hkd with ⟨rfl, n0, n1, h5, h6, h7⟩ | ⟨rfl, n0, n1⟩
    · refine UQ_on hU ho v0 v1 (fun _ _ => by rw [rd_begin1, w2]; exact h6) (fun s s0 s1 e hk1 hn => ?_)
      rw [rd_begin1, w2] at hn
      refine h7 ?_
      unfold obsC
      rcases (show s = 0 ∨ s = 1 ∨ s = 2 by omega) with rfl | rfl | rfl
      · exact Or.inl ⟨hk1, hn⟩
      · exact Or.inr (Or.inl ⟨hk1, hn⟩)
      · exact Or.inr (Or.inr ⟨hk1, hn⟩)
    · exact UQ_off hU ho (by rw [rd_begin0, w1]; decide) (fun q => absurd q (by omega))
  · rw [TOT_vis (fun g => hk _ _ _ (by decide)) (fun g => hk _ _ _ (by decide)) (fun g => hk _ _ _ (by decide)) (fun g => hk _ _ _ (by decide)) (by rw [hS]; omega)]
    exact hT
theorem CJ_alert {a : Mm} {x v i N : Int} (h : CJ a x N) (hN : N ≤ 2160) (v0 : 27 * x ≤ v) (v1 : v < 27 * x + 3) : CJ (alertC a x v i) x N := by
  unfold alertC
  by_cases q : alB a x v i = -1
  · rw [pif_t q]; exact h
  · rw [pif_f q]
    have hr := (alB_range h.1 x v i).resolve_left q
    exact CJ_begin (CJ_lose h hN v0 (by omega)) v0 v1 (rd_lose0 _ _ _) (Or.inr ⟨rfl, hr.1, hr.2⟩)
theorem btB_spec {a : Mm} (hI : IA a) (x i : Int) : btB a x i = -1 ∨ (0 ≤ btB a x i ∧ btB a x i < rd a 5 0 7 ∧ canC a x i (btB a x i)) := by
  have h5 := hI.2.2.2.2.1
  rcases srch_range (btP a x i) (begsC a x i) (rd a 5 0 7).toNat 0 (-1) 0 with h | h
  · exact Or.inl h
  · rcases srch_P (P := btP a x i) (U := begsC a x i) (fun t => canC a x i t) (fun a b u h => h.1) (rd a 5 0 7).toNat 0 (-1) 0 (Or.inl rfl) with h2 | h2
    · exact Or.inl h2
    · exact Or.inr ⟨h.1, by have := h.2; show btB a x i < _; unfold btB; omega, h2⟩
theorem CJ_target {a : Mm} {x v i N : Int} (h : CJ a x N) (v0 : 27 * x ≤ v) (v1 : v < 27 * x + 3) (hid : rd a 31 v 0 = 0) : CJ (targetC a x v i) x N := by
  unfold targetC
  rcases btB_spec h.1 x i with q | ⟨q0, q1, q2⟩
  · rw [pif_t q]; exact h
  · rw [pif_f (by omega)]
    have h5 := h.1.2.2.2.2.1
    exact CJ_begin h v0 v1 hid (Or.inl ⟨rfl, q0, by omega, q1, q2.2.1, q2.2.2.1⟩)
/-- the visits of v and w are exchanged -/
theorem S31_two {a a' : Mm} {x v w : Int} (ho : ∀ u j, u ≠ v → u ≠ w → rd a' 31 u j = rd a 31 u j) (hne : v ≠ w) (v0 : 27 * x ≤ v) (v1 : v < 27 * x + 27) (w0 : 27 * x ≤ w) (w1 : w < 27 * x + 27) : sm (fun i => rd a' 31 (27 * x + i) 2) 27 = sm (fun i => rd a 31 (27 * x + i) 2) 27 - rd a 31 v 2 + rd a' 31 v 2 - rd a 31 w 2 + rd a' 31 w 2 := by
  have h1 := sm_upd (f := fun i => rd a 31 (27 * x + i) 2) (g := fun i => if i = v - 27 * x then rd a' 31 v 2 else rd a 31 (27 * x + i) 2) (v := v - 27 * x) 27 (fun i _ _ hi => if_neg hi) (by omega) (by omega)
  have h2 := sm_upd (f := fun i => if i = v - 27 * x then rd a' 31 v 2 else rd a 31 (27 * x + i) 2) (g := fun i => rd a' 31 (27 * x + i) 2) (v := w - 27 * x) 27 (fun i _ _ hi => by
    show rd a' 31 (27 * x + i) 2 = if i = v - 27 * x then rd a' 31 v 2 else rd a 31 (27 * x + i) 2
    by_cases e : i = v - 27 * x
    · rw [if_pos e, show 27 * x + i = v by omega]
    · rw [if_neg e, ho _ _ (by omega) (by omega)]) (by omega) (by omega)
  have e3 : (if w - 27 * x = v - 27 * x then rd a' 31 v 2 else rd a 31 (27 * x + (w - 27 * x)) 2) = rd a 31 w 2 := by
    rw [if_neg (by omega), show 27 * x + (w - 27 * x) = w by omega]
  have h2' : sm (fun i => rd a' 31 (27 * x + i) 2) 27 = sm (fun i => if i = v - 27 * x then rd a' 31 v 2 else rd a 31 (27 * x + i) 2) 27 - (if w - 27 * x = v - 27 * x then rd a' 31 v 2 else rd a 31 (27 * x + (w - 27 * x)) 2) + rd a' 31 (27 * x + (w - 27 * x)) 2 := h2
  have h1' : sm (fun i => if i = v - 27 * x then rd a' 31 v 2 else rd a 31 (27 * x + i) 2) 27 = sm (fun i => rd a 31 (27 * x + i) 2) 27 - rd a 31 (27 * x + (v - 27 * x)) 2 + (if v - 27 * x = v - 27 * x then rd a' 31 v 2 else rd a 31 (27 * x + (v - 27 * x)) 2) := h1
  rw [e3, show 27 * x + (w - 27 * x) = w by omega] at h2'
  rw [if_pos rfl, show 27 * x + (v - 27 * x) = v by omega] at h1'
  rw [h2', h1']
theorem take_r {a : Mm} {v w : Int} (hne : v ≠ w) : (∀ (k : Nat) i j, ¬ (k = 31 ∧ (i = v ∨ i = w)) → rd (takeC a v w) k i j = rd a k i j) ∧ rd (takeC a v w) 31 v 0 = rd a 31 w 0 ∧ rd (takeC a v w) 31 v 1 = rd a 31 w 1 ∧ rd (takeC a v w) 31 v 2 = rd a 31 w 2 ∧ rd (takeC a v w) 31 v 3 = rd a 31 w 3 ∧ rd (takeC a v w) 31 w 0 = 0 ∧ rd (takeC a v w) 31 w 2 = 0 ∧ rd (takeC a v w) 31 w 3 = 0 := by
  refine ⟨fun k i j h => rd_take _ _ _ _ _ _ h, rd_takeV _ _ _ hne _ (by omega), rd_takeV _ _ _ hne _ (by omega), rd_takeV _ _ _ hne _ (by omega), rd_takeV _ _ _ hne _ (by omega), rd_takeW _ _ _, ?_, ?_⟩
  · unfold takeC; rw [rd_begin2]
  · unfold takeC; rw [rd_begin3]
theorem reB_spec {a : Mm} (hI : IA a) (x i : Int) : reB a x i = -1 ∨ (0 ≤ reB a x i ∧ reB a x i < 24 ∧ ¬ rd a 31 (27 * x + 3 + reB a x i) 0 = 0) := by
  rcases reB_range hI x i with h | h
  · exact Or.inl h
  · rcases reB_wait a x i with h2 | h2
    · exact Or.inl h2
    · exact Or.inr ⟨h.1, h.2, h2⟩
theorem CJ_resume {a : Mm} {x v i N : Int} (h : CJ a x N) (v0 : 27 * x ≤ v) (v1 : v < 27 * x + 3) (hid : rd a 31 v 0 = 0) : CJ (resumeC a x v i) x N := by
  have hIC := IC_resume (i := i) h.1 h.2.1 v0 v1
  unfold resumeC at hIC ⊢
  rcases reB_spec h.1 x i with q | ⟨q0, q1, q2⟩
  · rw [pif_t q]; exact h
  rw [pif_f (by omega)] at hIC ⊢
  generalize reB a x i = t at *
  obtain ⟨hI, hC, hNN, hV, hU, hT⟩ := h
  have hne : v ≠ 27 * x + 3 + t := by omega
  obtain ⟨ro, r0, r1, r2, r3, s0, s2, s3⟩ := take_r (a := a) hne
  have hk : ∀ (k : Nat) i j, k ≠ 31 → rd (takeC a v (27 * x + 3 + t)) k i j = rd a k i j := fun k i j e => ro k i j (fun q => e q.1)
  have ho : ∀ u j, u ≠ v → u ≠ 27 * x + 3 + t → rd (takeC a v (27 * x + 3 + t)) 31 u j = rd a 31 u j := fun u j e e' => ro _ _ _ (by omega)
  have hb := (hC.2.1 t q0 q1).resolve_left q2
  have hS := S31_two (x := x) ho hne v0 (by omega) (by omega) (by omega)
  obtain ⟨u0, u1, -⟩ := hV v v0 (by omega)
  have hw := hV (27 * x + 3 + t) (by omega) (by omega)
  rw [r2, s2, u1 hid] at hS
  refine ⟨IA_of hI (fun k i j e => hk k i j (by omega)), hIC, NN_vis hNN (fun g => hk _ _ _ (by decide)) (fun g => hk _ _ _ (by decide)) (fun g => hk _ _ _ (by decide)) (fun g => hk _ _ _ (by decide)), fun u g0 g1 => ?_, ?_, ?_⟩
  · unfold VW
    rw [hk 5 0 7 (by decide)]
    by_cases e : u = v
    · rw [e, r0, r1, r2, r3]; exact hw
    · by_cases e' : u = 27 * x + 3 + t
      · rw [e', s0, s2, s3]; exact ⟨Int.le_refl _, fun _ => rfl, fun q => absurd q (by decide), Int.le_refl _, by decide⟩
      · rw [ho _ _ e e', ho _ _ e e', ho _ _ e e', ho _ _ e e']; exact hV u g0 g1
  · refine ⟨fun s t' g0 g1 t0 t1 hk1 hn => ?_, fun s s' g0 g1 q0' q1' hne' hk1 hk1' => ?_⟩
    · by_cases e2 : 27 * x + 3 + t' = 27 * x + 3 + t
      · rw [e2]; exact s0
      · rw [ho _ _ (by omega) e2]
        by_cases e : 27 * x + s = v
        · rw [e, r1, hb.2.1] at hn
          omega
        · rw [ho _ _ e (by omega)] at hk1 hn
          exact hU.1 s t' g0 g1 t0 t1 hk1 hn
    · have key : ∀ s, 0 ≤ s → s < 3 → 27 * x + s ≠ v → rd a 31 (27 * x + s) 0 = 1 → ¬ rd a 31 (27 * x + s) 1 = t := fun s g0 g1 _ hk1 hn => q2 (hU.1 s t g0 g1 q0 q1 hk1 hn)
      by_cases e : 27 * x + s = v
      · rw [e, r1, hb.2.1, ho _ _ (show 27 * x + s' ≠ v by omega) (by omega)]
        rw [ho _ _ (show 27 * x + s' ≠ v by omega) (by omega)] at hk1'
        exact fun q => key s' q0' q1' (by omega) hk1' q.symm
      · rw [ho _ _ e (by omega)] at hk1 ⊢
        by_cases e' : 27 * x + s' = v
        · rw [e', r1, hb.2.1]
          exact key s g0 g1 e hk1
        · rw [ho _ _ e' (by omega)] at hk1' ⊢
          exact hU.2 s s' g0 g1 q0' q1' hne' hk1 hk1'
  · rw [TOT_vis (fun g => hk _ _ _ (by decide)) (fun g => hk _ _ _ (by decide)) (fun g => hk _ _ _ (by decide)) (fun g => hk _ _ _ (by decide)) (by rw [hS]; omega)]
    exact hT
theorem CJ_break {a : Mm} {x v N : Int} (h : CJ a x N) (hN : N ≤ 2160) (v0 : 27 * x ≤ v) (v1 : v < 27 * x + 3) : CJ (breakC a x v) x N := by
  have hIC := IC_break h.1 h.2.1 v0 v1
  unfold breakC at hIC ⊢
  by_cases hk1 : rd a 31 v 0 = 1
  rotate_left
  · rw [pif_f hk1]; exact CJ_lose h hN v0 (by omega)
  rw [pif_t hk1] at hIC ⊢
  obtain ⟨hI, hC, hNN, hV, hU, hT⟩ := h
  obtain ⟨q0, q1, -⟩ := (vOK_in hC v0 (by omega)).1 hk1
  have hu1 := hU.1 (v - 27 * x) (rd a 31 v 1) (by omega) (by omega) q0 q1 (by rw [show 27 * x + (v - 27 * x) = v by omega]; exact hk1) (by rw [show 27 * x + (v - 27 * x) = v by omega])
  have hu2 : ∀ s, 0 ≤ s → s < 3 → 27 * x + s ≠ v → rd a 31 (27 * x + s) 0 = 1 → ¬ rd a 31 (27 * x + s) 1 = rd a 31 v 1 := fun s s0 s1 e hks => by
    have := hU.2 s (v - 27 * x) s0 s1 (by omega) (by omega) (by omega) hks (by rw [show 27 * x + (v - 27 * x) = v by omega]; exact hk1)
    rw [show 27 * x + (v - 27 * x) = v by omega] at this
    exact this
  generalize hn : rd a 31 v 1 = t at *
  have hne : 27 * x + 3 + t ≠ v := by omega
  obtain ⟨ro, r0, r1, r2, r3, s0, s2, s3⟩ := take_r (a := a) hne
  generalize hb : st (takeC a (27 * x + 3 + t) v) 31 (27 * x + 3 + t) 4 (wr (rd (takeC a (27 * x + 3 + t) v) 26 x 8)) = b at *
  have rb : ∀ (k : Nat) i j, ¬ (k = 31 ∧ i = 27 * x + 3 + t ∧ j = 4) → rd b k i j = rd (takeC a (27 * x + 3 + t) v) k i j := fun k i j e => by rw [← hb, rd_st, if_neg e]
  have hk : ∀ (k : Nat) i j, k ≠ 31 → rd b k i j = rd a k i j := fun k i j e => by rw [rb _ _ _ (fun q => e q.1), ro _ _ _ (fun q => e q.1)]
  have ho : ∀ u j, u ≠ 27 * x + 3 + t → u ≠ v → rd b 31 u j = rd a 31 u j := fun u j e e' => by rw [rb _ _ _ (fun q => e q.2.1), ro _ _ _ (by omega)]
  have b0 : rd b 31 (27 * x + 3 + t) 0 = 1 := by rw [rb _ _ _ (by omega), r0, hk1]
  have b1 : rd b 31 (27 * x + 3 + t) 1 = t := by rw [rb _ _ _ (by omega), r1, hn]
  have b2 : rd b 31 (27 * x + 3 + t) 2 = rd a 31 v 2 := by rw [rb _ _ _ (by omega), r2]
  have b3 : rd b 31 (27 * x + 3 + t) 3 = rd a 31 v 3 := by rw [rb _ _ _ (by omega), r3]
  have c0 : rd b 31 v 0 = 0 := by rw [rb _ _ _ (by omega), s0]
  have c2 : rd b 31 v 2 = 0 := by rw [rb _ _ _ (by omega), s2]
  have c3 : rd b 31 v 3 = 0 := by rw [rb _ _ _ (by omega), s3]
  have hS := S31_two (x := x) ho hne (by omega) (by omega) v0 (by omega)
  have hw := hV (27 * x + 3 + t) (by omega) (by omega)
  have hv := hV v v0 (by omega)
  rw [b2, c2, hw.2.1 hu1] at hS
  refine ⟨IA_of hI (fun k i j e => hk k i j (by omega)), hIC, NN_vis hNN (fun g => hk _ _ _ (by decide)) (fun g => hk _ _ _ (by decide)) (fun g => hk _ _ _ (by decide)) (fun g => hk _ _ _ (by decide)), fun u g0 g1 => ?_, ?_, ?_⟩
  · unfold VW
    rw [hk 5 0 7 (by decide)]
    by_cases e : u = 27 * x + 3 + t
    · rw [e, b0, b1, b2, b3]
      refine ⟨hv.1, fun q => absurd q (by decide), fun _ => ?_, hv.2.2.2⟩
      have := hv.2.2.1 hk1
      rw [hn] at this
      exact this
    · by_cases e' : u = v
      · rw [e', c0, c2, c3]; exact ⟨Int.le_refl _, fun _ => rfl, fun q => absurd q (by decide), Int.le_refl _, by decide⟩
      · rw [ho _ _ e e', ho _ _ e e', ho _ _ e e', ho _ _ e e']; exact hV u g0 g1
  · refine ⟨fun s t' g0 g1 t0 t1 hks hns => ?_, fun s s' g0 g1 q0' q1' hne' hks hks' => ?_⟩
    · have e : 27 * x + s ≠ v := fun e => by rw [e, c0] at hks; exact absurd hks (by decide)
      rw [ho _ _ (by omega) e] at hks hns
      by_cases e2 : t' = t
      · exact absurd (hns.trans e2) (hu2 s g0 g1 e hks)
      · rw [ho _ _ (by omega) (by omega)]
        exact hU.1 s t' g0 g1 t0 t1 hks hns
    · have e : 27 * x + s ≠ v := fun e => by rw [e, c0] at hks; exact absurd hks (by decide)
      have e' : 27 * x + s' ≠ v := fun e => by rw [e, c0] at hks'; exact absurd hks' (by decide)
      rw [ho _ _ (by omega) e] at hks ⊢
      rw [ho _ _ (by omega) e'] at hks' ⊢
      exact hU.2 s s' g0 g1 q0' q1' hne' hks hks'
  · rw [TOT_vis (fun g => hk _ _ _ (by decide)) (fun g => hk _ _ _ (by decide)) (fun g => hk _ _ _ (by decide)) (fun g => hk _ _ _ (by decide)) (by rw [hS]; omega)]
    exact hT
