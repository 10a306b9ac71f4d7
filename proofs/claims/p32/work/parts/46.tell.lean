/-! ===== what is told keeps what holds ===== -/
theorem JV_told {a a' : Mm} (h : JV a) (hI : IA a') (hP : PX a') (h5 : rd a 5 0 7 ≤ rd a' 5 0 7) (h18 : ∀ t, 0 ≤ t → t < rd a 5 0 7 → rd a' 18 t 3 = rd a 18 t 3) (ro : ∀ (k : Nat) i j, 20 ≤ k → rd a' k i j = rd a k i j) : JV a' := by
  obtain ⟨⟨⟨hI0, hC, hNN, hV, hU, hT⟩, hP0, hD⟩, ⟨hi1, hi2⟩, w0, w1⟩ := h
  have e26 : rd a' 26 0 8 = rd a 26 0 8 := ro _ _ _ (by decide)
  have hC' : IC a' 0 := by
    refine ⟨fun u u0 u1 => ?_, fun t t0 t1 => ?_, by rw [ro _ _ _ (by decide)]; exact hC.2.2⟩
    · have h9 := hC.1 u u0 u1
      have hv := hV (27 * 0 + u) (by omega) (by omega)
      unfold vOK at h9 ⊢
      rw [ro _ _ _ (by decide), ro _ _ _ (by decide), ro _ _ _ (by decide)]
      refine ⟨fun q => ?_, h9.2⟩
      obtain ⟨n0, n1, n2, n3⟩ := h9.1 q
      rw [h18 _ n0 (hv.2.2.1 q)]
      exact ⟨n0, n1, n2, n3⟩
    · have h9 := hC.2.1 t t0 t1
      have hv := hV (27 * 0 + 3 + t) (by omega) (by omega)
      unfold bOK at h9 ⊢
      rw [ro _ _ _ (by decide), ro _ _ _ (by decide), ro _ _ _ (by decide)]
      rcases h9 with q | ⟨q, q1, q2, q3⟩
      · exact Or.inl q
      · refine Or.inr ⟨q, q1, q2, ?_⟩
        have := hv.2.2.1 q
        rw [q1] at this
        rw [h18 t t0 this]
        exact q3
  refine ⟨⟨⟨hI, hC', NN_vis hNN (fun g => ro _ _ _ (by decide)) (fun g => ro _ _ _ (by decide)) (fun g => ro _ _ _ (by decide)) (fun g => ro _ _ _ (by decide)), VV_dep hV (fun w j _ _ => ro _ _ _ (by decide)) h5, UQ_dep hU (fun w j _ _ => ro _ _ _ (by decide)), ?_⟩, hP, ?_⟩, ⟨fun v v0 v1 => by rw [ro _ _ _ (by decide)]; exact hi1 v v0 v1, by rw [ro _ _ _ (by decide)]; exact hi2⟩, by rw [e26]; exact w0, by rw [e26]; exact w1⟩
  · rw [e26, TOT_dep (fun w j _ _ => ro _ _ _ (by decide)) (fun g => ro _ _ _ (by decide)) (fun g => ro _ _ _ (by decide)) (fun g => ro _ _ _ (by decide)) (fun g => ro _ _ _ (by decide))]
    exact hT
  · obtain ⟨hc, hd, hn⟩ := hD
    refine ⟨by rw [ro _ _ _ (by decide)]; exact hc, fun d d0 d1 => ?_, fun hlt t t0 t1 => ?_⟩
    · rw [ro _ _ _ (by decide)] at d1
      have h9 := hd d d0 d1
      unfold dOK at h9 ⊢
      simp only [ro 28 _ _ (by decide)]
      exact ⟨h9.1, fun q => ⟨(h9.2.1 q).1, by have := (h9.2.1 q).2; omega⟩, h9.2.2⟩
    · rw [ro _ _ _ (by decide)] at hlt
      rw [ro _ _ _ (by decide), ro _ _ _ (by decide), cnt_congr (a := a) (x := 0) _ (fun z _ => ro _ _ _ (by decide))]
      exact hn hlt t t0 t1
/-- where the plan's own numbers stay -/
theorem JV_same {a a' : Mm} (h : JV a) (ro : ∀ (k : Nat) i j, k = 5 ∨ k = 12 ∨ k = 17 ∨ k = 18 ∨ k = 19 ∨ 20 ≤ k → rd a' k i j = rd a k i j) : JV a' :=
  JV_told h (IA_of4 h.1.1.1 (fun k i j e => ro _ _ _ (by omega))) (PX_dep h.1.2.1 (fun k i j e => ro _ _ _ (by omega))) (Int.le_of_eq (ro _ _ _ (by decide)).symm) (fun t _ _ => ro _ _ _ (by decide)) (fun k i j e => ro _ _ _ (by omega))
theorem JV_st {a : Mm} (h : JV a) (k : Nat) (i j v : Int) (hk : k ≠ 5 ∧ k ≠ 12 ∧ k ≠ 17 ∧ k ≠ 18 ∧ k ≠ 19 ∧ k < 20) : JV (st a k i j v) := JV_same h (fun k' i' j' e => rd_st_ne (by omega))
theorem fori_o {f : Int → Mm → Mm} {k : Nat} (h : ∀ t m i j, rd (f t m) k i j = rd m k i j) : ∀ (n : Nat) (c : Int) (m : Mm) (i j : Int), rd (fori f n c m) k i j = rd m k i j
  | 0, _, _, _, _ => rfl
  | n + 1, c, m, i, j => (fori_o h n (c + 1) (f c m) i j).trans (h c m i j)
theorem JV_fault {a : Mm} (h : JV a) (s n f t : Int) : JV (fltC a s n f t) := JV_same h (fun k i j e => fori_o (fun t m i j => rd_st_ne (by omega)) _ _ _ _ _)
theorem JV_mount {a : Mm} (h : JV a) (s n c : Int) : JV (ufC a s n c) := by
  have ufo : ∀ (k : Nat) (i z : Int) (q : Nat) (j : Int) (m : Mm), k ≠ 14 → rd (ufL s c q j m) k i z = rd m k i z := by
    intro k i z q
    induction q with
    | zero => intro j m _; rfl
    | succ q ih =>
      intro j m hk
      show rd (pif (rd m 15 s j = 0) (ufL s c q (j + 1) (st m 14 s j (wr c))) m) k i z = _
      by_cases e : rd m 15 s j = 0
      · rw [pif_t e, ih _ _ hk, rd_st_ne hk]
      · rw [pif_f e]
  refine JV_same h (fun k i j e => ?_)
  unfold ufC
  rw [ufo _ _ _ _ _ _ (by omega), rd_st_ne (by omega), rd_st_ne (by omega)]
theorem JV_weather {a : Mm} (h : JV a) {s n f t v : Int} (v0 : 0 ≤ v) (v1 : v ≤ 50) : JV (wthC a s n f t v) := by
  have ro : ∀ (k : Nat) i j, k ≠ 12 → rd (wthC a s n f t v) k i j = rd a k i j := fun k i j e => fori_o (fun t m i j => rd_st_ne e) _ _ _ _ _
  obtain ⟨p1, p2, p3, p4⟩ := h.1.2.1
  have h12 : ∀ (q : Nat) (c : Int) (m : Mm), (∀ s' t', 0 ≤ s' → s' < 3 → 0 ≤ t' → t' < 720 → 0 ≤ rd m 12 s' t' ∧ rd m 12 s' t' ≤ 50) → ∀ s' t', 0 ≤ s' → s' < 3 → 0 ≤ t' → t' < 720 → 0 ≤ rd (fori (fun j m => st m 12 s (n * 24 + j) (wr v)) q c m) 12 s' t' ∧ rd (fori (fun j m => st m 12 s (n * 24 + j) (wr v)) q c m) 12 s' t' ≤ 50 := by
    intro q
    induction q with
    | zero => intro c m hm; exact hm
    | succ q ih =>
      intro c m hm
      refine ih (c + 1) _ (fun s' t' s0 s1 t0 t1 => ?_)
      show 0 ≤ rd (st m 12 s (n * 24 + c) (wr v)) 12 s' t' ∧ rd (st m 12 s (n * 24 + c) (wr v)) 12 s' t' ≤ 50
      rw [rd_st]
      split
      · rw [wr_wr, wr_of (by omega) (by omega)]; omega
      · exact hm s' t' s0 s1 t0 t1
  refine JV_told h (IA_of4 h.1.1.1 (fun k i j e => ro _ _ _ (by omega))) ⟨fun t t0 t1 => ?_, fun q q0 q1 => ?_, h12 _ _ _ p3, ?_⟩ (Int.le_of_eq (ro _ _ _ (by decide)).symm) (fun t _ _ => ro _ _ _ (by decide)) (fun k i j e => ro _ _ _ (by omega))
  · rw [ro _ _ _ (by decide)] at t1 ⊢; exact p1 t t0 t1
  · rw [ro _ _ _ (by decide)]; exact p2 q q0 q1
  · rw [ro _ _ _ (by decide)]; exact p4
theorem pro_rd {a : Mm} {g r q d : Int} (hI : IA a) (g0 : 0 ≤ g) (g1 : g < 4) (d0 : 0 ≤ d) (d1 : d ≤ 30) : (∀ (k : Nat) (i j : Int), ¬ (k = 5 ∧ j = 6) → ¬ (k = 17 ∧ i = rd a 5 0 6) → rd (proC a g r q d) k i j = rd a k i j) ∧ rd (proC a g r q d) 5 0 6 = rd a 5 0 6 + 1 ∧ rd (proC a g r q d) 17 (rd a 5 0 6) 0 = g ∧ rd (proC a g r q d) 17 (rd a 5 0 6) 3 = d := by
  have h6 := hI.2.2.2.1
  refine ⟨fun k i j hk hk2 => ?_, ?_, ?_⟩
  · unfold proC
    rw [rd_stx hk2, rd_stx hk2, rd_stx hk2, rd_stx hk2, rd_st, if_neg (by omega)]
  · unfold proC
    rw [rd_st_ne (by decide), rd_st_ne (by decide), rd_st_ne (by decide), rd_st_ne (by decide), rd_st, if_pos ⟨rfl, rfl, rfl⟩, wr_wr, wr_of (by omega) (by omega)]
  · unfold proC
    simp [rd_st, wr_wr]
    exact ⟨wr_of (by omega) (by omega), wr_of (by omega) (by omega)⟩
theorem JV_prop {a : Mm} (h : JV a) {g r q d : Int} (g0 : 0 ≤ g) (g1 : g < 4) (d0 : 0 ≤ d) (d1 : d ≤ 30) (hc : rd a 5 0 6 < 8) : JV (proC a g r q d) ∧ rd (proC a g r q d) 5 0 6 = rd a 5 0 6 + 1 ∧ rd (proC a g r q d) 5 0 7 = rd a 5 0 7 ∧ rd (proC a g r q d) 5 0 8 = rd a 5 0 8 := by
  have hI := h.1.1.1
  obtain ⟨ra, r6, rg, r3⟩ := pro_rd (r := r) (q := q) hI g0 g1 d0 d1
  obtain ⟨p1, p2, p3, p4⟩ := h.1.2.1
  refine ⟨JV_told h ⟨fun t t0 t1 => ?_, fun t t0 t1 => ?_, fun z z0 z1 => ?_, ?_, ?_, ?_⟩ ⟨fun t t0 t1 => ?_, fun z z0 z1 => ?_, fun s t s0 s1 t0 t1 => ?_, ?_⟩ (Int.le_of_eq (ra _ _ _ (by omega) (by omega)).symm) (fun t _ _ => ra _ _ _ (by omega) (by omega)) (fun k i j e => ra _ _ _ (by omega) (by omega)), r6, ra _ _ _ (by omega) (by omega), ra _ _ _ (by omega) (by omega)⟩
  · have h9 := hI.1 t t0 t1
    unfold tOK at h9 ⊢
    simp only [fun i j => ra 18 i j (by omega) (by omega)]
    exact h9
  · have h9 := hI.2.1 t t0 t1
    unfold aOK at h9 ⊢
    simp only [fun i j => ra 19 i j (by omega) (by omega)]
    exact h9
  · by_cases e : z = rd a 5 0 6
    · rw [e, rg]; exact ⟨g0, g1⟩
    · rw [ra 17 _ _ (by omega) (by omega)]; exact hI.2.2.1 z z0 z1
  · rw [r6]; have := hI.2.2.2.1; omega
  · rw [ra 5 _ _ (by omega) (by omega)]; exact hI.2.2.2.2.1
  · rw [ra 5 _ _ (by omega) (by omega)]; exact hI.2.2.2.2.2
  · rw [ra 5 _ _ (by omega) (by omega)] at t1
    rw [ra 18 _ _ (by omega) (by omega)]; exact p1 t t0 t1
  · by_cases e : z = rd a 5 0 6
    · rw [e, r3]; exact d0
    · rw [ra 17 _ _ (by omega) (by omega)]; exact p2 z z0 z1
  · rw [ra 12 _ _ (by omega) (by omega)]; exact p3 s t s0 s1 t0 t1
  · rw [ra 5 _ _ (by omega) (by omega)]; exact p4
theorem tgt_rd {a : Mm} {p b y d i f g v w : Int} (hI : IA a) (p0 : 0 ≤ p) (p1 : p < 8) (d0 : 1 ≤ d) (d1 : d ≤ 6) (i0 : 0 ≤ i) (i1 : i < 3) : (∀ (k : Nat) (i' j : Int), ¬ (k = 5 ∧ j = 7) → ¬ (k = 18 ∧ i' = rd a 5 0 7) → rd (tgC a p b y d i f g v w) k i' j = rd a k i' j) ∧ rd (tgC a p b y d i f g v w) 5 0 7 = rd a 5 0 7 + 1 ∧ rd (tgC a p b y d i f g v w) 18 (rd a 5 0 7) 0 = rd a 17 p 0 ∧ rd (tgC a p b y d i f g v w) 18 (rd a 5 0 7) 3 = d ∧ rd (tgC a p b y d i f g v w) 18 (rd a 5 0 7) 4 = i ∧ rd (tgC a p b y d i f g v w) 18 (rd a 5 0 7) 9 = rd a 5 0 7 ∧ rd (tgC a p b y d i f g v w) 18 (rd a 5 0 7) 10 = p := by
  have h7 := hI.2.2.2.2.1
  refine ⟨fun k i' j hk hk2 => ?_, ?_, ?_⟩
  · unfold tgC tg3 tg2 tg1 aimC
    rw [rd_stx hk2, rd_stx hk2, rd_stx hk2, rd_stx hk2, rd_stx hk2, rd_stx hk2, rd_stx hk2, rd_stx hk2, rd_stx hk2, rd_stx hk2, rd_stx hk2, rd_stx hk2, rd_st, if_neg (by omega)]
  · unfold tgC tg3 tg2 tg1 aimC
    simp [rd_st, wr_wr]
    exact wr_of (by omega) (by omega)
  · unfold tgC tg3 tg2 tg1 aimC
    simp [rd_st, wr_wr, wr_rd]
    exact ⟨wr_of (by omega) (by omega), wr_of (by omega) (by omega), wr_of (by omega) (by omega)⟩
theorem JV_target {a : Mm} (h : JV a) {p b y d i f g v w : Int} (p0 : 0 ≤ p) (p1 : p < rd a 5 0 6) (d0 : 1 ≤ d) (d1 : d ≤ 6) (i0 : 0 ≤ i) (i1 : i < 3) (hc : rd a 5 0 7 < 24) : JV (tgC a p b y d i f g v w) ∧ rd (tgC a p b y d i f g v w) 5 0 7 = rd a 5 0 7 + 1 ∧ rd (tgC a p b y d i f g v w) 5 0 6 = rd a 5 0 6 ∧ rd (tgC a p b y d i f g v w) 5 0 8 = rd a 5 0 8 := by
  have hI := h.1.1.1
  have p8 : p < 8 := by have := hI.2.2.2.1; omega
  obtain ⟨ra, r7, r0, r3, r4, r9, r10⟩ := tgt_rd (b := b) (y := y) (f := f) (g := g) (v := v) (w := w) hI p0 p8 d0 d1 i0 i1
  obtain ⟨q1, q2, q3, q4⟩ := h.1.2.1
  have h7 := hI.2.2.2.2.1
  refine ⟨JV_told h ⟨fun t t0 t1 => ?_, fun t t0 t1 => ?_, fun z z0 z1 => ?_, ?_, ?_, ?_⟩ ⟨fun t t0 t1 => ?_, fun z z0 z1 => ?_, fun s t s0 s1 t0 t1 => ?_, ?_⟩ (by rw [r7]; omega) (fun t _ _ => ra _ _ _ (by omega) (by omega)) (fun k i j e => ra _ _ _ (by omega) (by omega)), r7, ra _ _ _ (by omega) (by omega), ra _ _ _ (by omega) (by omega)⟩
  · by_cases e : t = rd a 5 0 7
    · unfold tOK
      rw [e, r0, r3, r4, r9, r10]
      have hg := hI.2.2.1 p p0 p8
      omega
    · have h9 := hI.1 t t0 t1
      unfold tOK at h9 ⊢
      rw [ra 18 _ _ (by omega) (by omega), ra 18 _ _ (by omega) (by omega), ra 18 _ _ (by omega) (by omega), ra 18 _ _ (by omega) (by omega), ra 18 _ _ (by omega) (by omega)]
      exact h9
  · have h9 := hI.2.1 t t0 t1
    unfold aOK at h9 ⊢
    simp only [fun i j => ra 19 i j (by omega) (by omega)]
    exact h9
  · rw [ra 17 _ _ (by omega) (by omega)]; exact hI.2.2.1 z z0 z1
  · rw [ra 5 _ _ (by omega) (by omega)]; exact hI.2.2.2.1
  · rw [r7]; omega
  · rw [ra 5 _ _ (by omega) (by omega)]; exact hI.2.2.2.2.2
  · rw [r7] at t1
    by_cases e : t = rd a 5 0 7
    · rw [e, r9]
    · rw [ra 18 _ _ (by omega) (by omega)]; exact q1 t t0 (by omega)
  · rw [ra 17 _ _ (by omega) (by omega)]; exact q2 z z0 z1
  · rw [ra 12 _ _ (by omega) (by omega)]; exact q3 s t s0 s1 t0 t1
  · rw [ra 5 _ _ (by omega) (by omega)]; exact q4
theorem JV_series {a : Mm} (h : JV a) (t f p o : Int) : JV (serC a t f p o) ∧ ∀ j, rd (serC a t f p o) 5 0 j = rd a 5 0 j := by
  have ra : ∀ (k : Nat) (i j : Int), (k = 18 → j < 12) → rd (serC a t f p o) k i j = rd a k i j := fun k i j hk => by
    unfold serC
    rw [rd_st, if_neg (by omega), rd_st, if_neg (by omega), rd_st, if_neg (by omega), rd_st, if_neg (by omega)]
  have hI := h.1.1.1
  obtain ⟨q1, q2, q3, q4⟩ := h.1.2.1
  refine ⟨JV_told h ⟨fun t t0 t1 => ?_, fun t t0 t1 => ?_, fun z z0 z1 => ?_, ?_, ?_, ?_⟩ ⟨fun t t0 t1 => ?_, fun z z0 z1 => ?_, fun s t s0 s1 t0 t1 => ?_, ?_⟩ (Int.le_of_eq (ra _ _ _ (by omega)).symm) (fun t _ _ => ra _ _ _ (by omega)) (fun k i j e => ra _ _ _ (by omega)), fun j => ra _ _ _ (by omega)⟩
  · have h9 := hI.1 t t0 t1
    unfold tOK at h9 ⊢
    rw [ra 18 _ _ (by omega), ra 18 _ _ (by omega), ra 18 _ _ (by omega), ra 18 _ _ (by omega), ra 18 _ _ (by omega)]
    exact h9
  · have h9 := hI.2.1 t t0 t1
    unfold aOK at h9 ⊢
    simp only [fun i j => ra 19 i j (by omega)]
    exact h9
  · rw [ra 17 _ _ (by omega)]; exact hI.2.2.1 z z0 z1
  · rw [ra 5 _ _ (by omega)]; exact hI.2.2.2.1
  · rw [ra 5 _ _ (by omega)]; exact hI.2.2.2.2.1
  · rw [ra 5 _ _ (by omega)]; exact hI.2.2.2.2.2
  · rw [ra 5 _ _ (by omega)] at t1
    rw [ra 18 _ _ (by omega)]; exact q1 t t0 t1
  · rw [ra 17 _ _ (by omega)]; exact q2 z z0 z1
  · rw [ra 12 _ _ (by omega)]; exact q3 s t s0 s1 t0 t1
  · rw [ra 5 _ _ (by omega)]; exact q4
theorem alt_rd {a : Mm} {g b c d e f n u v : Int} (hI : IA a) (g0 : 0 ≤ g) (g1 : g < 4) (e0 : 1 ≤ e) (e1 : e ≤ 6) (f0 : 0 ≤ f) (f1 : f < 3) : (∀ (k : Nat) (i' j : Int), ¬ (k = 5 ∧ j = 8) → ¬ (k = 19 ∧ i' = rd a 5 0 8) → rd (alC a g b c d e f n u v) k i' j = rd a k i' j) ∧ rd (alC a g b c d e f n u v) 5 0 8 = rd a 5 0 8 + 1 ∧ rd (alC a g b c d e f n u v) 19 (rd a 5 0 8) 0 = g ∧ rd (alC a g b c d e f n u v) 19 (rd a 5 0 8) 3 = e ∧ rd (alC a g b c d e f n u v) 19 (rd a 5 0 8) 4 = f := by
  have h8 := hI.2.2.2.2.2
  refine ⟨fun k i' j hk hk2 => ?_, ?_, ?_⟩
  · unfold alC aimC
    rw [rd_stx hk2, rd_stx hk2, rd_stx hk2, rd_stx hk2, rd_stx hk2, rd_stx hk2, rd_stx hk2, rd_stx hk2, rd_st, if_neg (by omega)]
  · unfold alC aimC
    simp [rd_st, wr_wr]
    exact wr_of (by omega) (by omega)
  · unfold alC aimC
    simp [rd_st, wr_wr]
    exact ⟨wr_of (by omega) (by omega), wr_of (by omega) (by omega), wr_of (by omega) (by omega)⟩
theorem JV_alert {a : Mm} (h : JV a) {g b c d e f n u v : Int} (g0 : 0 ≤ g) (g1 : g < 4) (e0 : 1 ≤ e) (e1 : e ≤ 6) (f0 : 0 ≤ f) (f1 : f < 3) (hc : rd a 5 0 8 < 10) : JV (alC a g b c d e f n u v) ∧ rd (alC a g b c d e f n u v) 5 0 8 = rd a 5 0 8 + 1 ∧ rd (alC a g b c d e f n u v) 5 0 6 = rd a 5 0 6 ∧ rd (alC a g b c d e f n u v) 5 0 7 = rd a 5 0 7 := by
  have hI := h.1.1.1
  obtain ⟨ra, r8, r0, r3, r4⟩ := alt_rd (b := b) (c := c) (d := d) (n := n) (u := u) (v := v) hI g0 g1 e0 e1 f0 f1
  obtain ⟨q1, q2, q3, q4⟩ := h.1.2.1
  have h8 := hI.2.2.2.2.2
  refine ⟨JV_told h ⟨fun t t0 t1 => ?_, fun t t0 t1 => ?_, fun z z0 z1 => ?_, ?_, ?_, ?_⟩ ⟨fun t t0 t1 => ?_, fun z z0 z1 => ?_, fun s t s0 s1 t0 t1 => ?_, ?_⟩ (Int.le_of_eq (ra _ _ _ (by omega) (by omega)).symm) (fun t _ _ => ra _ _ _ (by omega) (by omega)) (fun k i j e => ra _ _ _ (by omega) (by omega)), r8, ra _ _ _ (by omega) (by omega), ra _ _ _ (by omega) (by omega)⟩
  · have h9 := hI.1 t t0 t1
    unfold tOK at h9 ⊢
    simp only [fun i j => ra 18 i j (by omega) (by omega)]
    exact h9
  · by_cases e : t = rd a 5 0 8
    · unfold aOK
      rw [e, r0, r3, r4]
      omega
    · have h9 := hI.2.1 t t0 t1
      unfold aOK at h9 ⊢
      rw [ra 19 _ _ (by omega) (by omega), ra 19 _ _ (by omega) (by omega), ra 19 _ _ (by omega) (by omega)]
      exact h9
  · rw [ra 17 _ _ (by omega) (by omega)]; exact hI.2.2.1 z z0 z1
  · rw [ra 5 _ _ (by omega) (by omega)]; exact hI.2.2.2.1
  · rw [ra 5 _ _ (by omega) (by omega)]; exact hI.2.2.2.2.1
  · rw [r8]; omega
  · rw [ra 5 _ _ (by omega) (by omega)] at t1
    rw [ra 18 _ _ (by omega) (by omega)]; exact q1 t t0 t1
  · rw [ra 17 _ _ (by omega) (by omega)]; exact q2 z z0 z1
  · rw [ra 12 _ _ (by omega) (by omega)]; exact q3 s t s0 s1 t0 t1
  · rw [ra 5 _ _ (by omega) (by omega)]; exact q4
