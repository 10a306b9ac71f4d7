/-! ===== class and model side by side, XXIII: each call's answer ===== -/
theorem thr_hold (m : Mm) (Es : List String) (c : Option String) (hl : Es.length < 4) : rd (hold m (cdX Es c)) 40 0 60 = cdX Es c := by
  unfold hold
  rw [rd_st, if_pos ⟨rfl, rfl, rfl⟩, wr_wr]
  have hp : ∀ (Es : List String) (E : String), 1 ≤ ps Es E ∧ ps Es E ≤ Es.length + 1 := fun Es E => by
    induction Es with
    | nil => unfold ps; exact ⟨by decide, by decide⟩
    | cons e t ih =>
      unfold ps
      by_cases q : E = e
      · rw [if_pos q]; simp; omega
      · rw [if_neg q]; simp; omega
  cases c with
  | none => rfl
  | some E =>
    have := hp Es E
    show wr (ps Es E) = ps Es E
    exact wr_of (by omega) (by omega)
/-- a call of the model that tells: its memory, its code -/
theorem md_call {Es : List String} {c : Option String} {a a' m : Mm} {f : Mm → Mm} (hl : Es.length < 4) (h : FU a m) (hf : c = none → FU a' (f (hold m (cdX Es c))) ∧ rd (f (hold m (cdX Es c))) 40 0 60 = rd (hold m (cdX Es c)) 40 0 60) : FU (pif (c = none) a' a) (md Es c m f) ∧ rd (md Es c m f) 40 0 60 = cdX Es c := by
  by_cases q : c = none
  · rw [pif_t q, md_n q]
    exact ⟨(hf q).1, (hf q).2.trans (thr_hold m Es c hl)⟩
  · rw [pif_f q, md_s q]
    exact ⟨FU_hold h _, thr_hold m Es c hl⟩
theorem e0 : E0.length < 4 := by decide
theorem e1 : E1.length < 4 := by decide
theorem e2 : E2.length < 4 := by decide
theorem rh {m : Mm} {z : Int} {k : Nat} {i j : Int} (h : k ≠ 40 ∨ j ≠ 60) : rd (hold m z) k i j = rd m k i j := rd_hold _ _ _ _ _ (by omega)
theorem call_place {a m : Mm} (h : FU a m) (s b c : Int) : FU (pif (plcH s b c = none) (st (st a 11 s 0 (wr b)) 11 s 1 (wr c)) a) (plcM m s b c) ∧ rd (plcM m s b c) 40 0 60 = cdX E0 (plcH s b c) := by
  refine md_call e0 h (fun q => ?_)
  obtain ⟨s0, s1⟩ := ix_of (ck_of q).1
  exact ⟨tell_place (FU_hold h _) s0 s1, by rw [rd_st_ne (by decide), rd_st_ne (by decide)]⟩
theorem call_moon {a m : Mm} (h : FU a m) (b : Int) : (FU (pif (rgC b 0 29 = none) (st a 5 0 5 (wr b)) a) (mooM m b) ∧ rd (mooM m b) 40 0 60 = cdX E1 (rgC b 0 29)) ∧ (rgC b 0 29 = none → rd a 5 0 5 = mooR m b) := by
  refine ⟨md_call e1 h (fun q => ⟨tell_moon (FU_hold h _), by rw [rd_st, if_neg (by omega)]⟩), fun q => ?_⟩
  unfold mooR
  rw [pif_t q]; exact h.1.1.2.1
theorem fori_60 (f : Int → Mm → Mm) (hf : ∀ t m, rd (f t m) 40 0 60 = rd m 40 0 60) (n : Nat) (c : Int) (m : Mm) : rd (fori f n c m) 40 0 60 = rd m 40 0 60 := fori_mk (P := fun m9 => rd m9 40 0 60 = rd m 40 0 60) (fun t m9 h9 => (hf t m9).trans h9) n c m rfl
theorem call_weather {a m : Mm} (h : FU a m) (s b c d e : Int) : FU (pif (wthH s b c d e = none) (wthC a s b c d e) a) (wthM m s b c d e) ∧ rd (wthM m s b c d e) 40 0 60 = cdX E0 (wthH s b c d e) := by
  refine md_call e0 h (fun q => ?_)
  obtain ⟨⟨s0, s1⟩, ⟨b0, b1⟩, ⟨c0, c1⟩, d0, d1⟩ := sl_of (ck_of q).1
  have e9 := rg_of (ck_of (ck_of q).2).2
  have o9 := or_of (ck_of (ck_of q).2).1
  exact ⟨tell_weather s0 s1 b0 b1 (by omega) (by omega) _ _ _ _ c0 (by omega) (FU_hold h _), fori_60 _ (fun t m => rd_st_ne (by decide)) _ _ _⟩
theorem call_fault {a m : Mm} (h : FU a m) (s b c d : Int) : FU (pif (fltH s b c d = none) (fltC a s b c d) a) (fltM m s b c d) ∧ rd (fltM m s b c d) 40 0 60 = cdX E0 (fltH s b c d) := by
  refine md_call e0 h (fun q => ?_)
  obtain ⟨⟨s0, s1⟩, ⟨b0, b1⟩, ⟨c0, c1⟩, d0, d1⟩ := sl_of (ck_of q).1
  have o9 := or_of (ck_of q).2
  exact ⟨tell_fault s0 s1 b0 b1 _ _ _ _ c0 (by omega) (FU_hold h _), fori_60 _ (fun t m => rd_st_ne (by decide)) _ _ _⟩
theorem call_mount {a m : Mm} (h : FU a m) (s b c : Int) : rd a 26 0 8 = rd m 40 0 45 ∧ (FU (pif (mntH (rd m 40 0 45) s b c = none) (ufC a s b c) a) (mntM m s b c) ∧ rd (mntM m s b c) 40 0 60 = cdX E2 (mntH (rd m 40 0 45) s b c)) ∧ (mntH (rd m 40 0 45) s b c = none → rd a 14 s b = mntR m s b c) := by
  refine ⟨h.2.2.2.2.2.1, md_call e2 h (fun q => ?_), fun q => ?_⟩
  · obtain ⟨s0, s1⟩ := ix_of (ck_of q).1
    obtain ⟨b0, b1⟩ := ix_of (ck_of (ck_of q).2).1
    obtain ⟨c0, c1⟩ := ix_of (ck_of (ck_of (ck_of q).2).2).1
    exact ⟨tell_mount (FU_hold h _) s0 s1 b0 b1 c0 c1, rd_st_ne (by decide)⟩
  · obtain ⟨s0, s1⟩ := ix_of (ck_of q).1
    obtain ⟨b0, b1⟩ := ix_of (ck_of (ck_of q).2).1
    unfold mntR
    rw [pif_t q]
    exact ((FU_hold h _).1.1.2.2.2.1 s b s0 s1 b0 b1).1
theorem bz_iff {P Q : Prop} (h : P ↔ Q) : bz P = bz Q := by
  by_cases q : P
  · rw [bz_t q, bz_t (h.mp q)]
  · rw [bz_f q, bz_f (fun c => q (h.mpr c))]
theorem call_cal {a m : Mm} (h : FU a m) (s b c : Int) : (FU (pif (calH s b c = none) (st a 16 s (b * 30 + c) (wr 1 % 2)) a) (calM m s b c) ∧ rd (calM m s b c) 40 0 60 = cdX E0 (calH s b c)) ∧ (calH s b c = none → bz (rd a 16 s (b * 30 + c) = 0) = calR m s b c) := by
  refine ⟨md_call e0 h (fun q => ?_), fun q => ?_⟩
  · obtain ⟨s0, s1⟩ := ix_of (ck_of q).1
    obtain ⟨b0, b1⟩ := ix_of (ck_of (ck_of q).2).1
    obtain ⟨c0, c1⟩ := ix_of (ck_of (ck_of q).2).2
    exact ⟨tell_cal (FU_hold h _) s0 s1 b0 b1 c0 c1, rd_st_ne (by decide)⟩
  · obtain ⟨s0, s1⟩ := ix_of (ck_of q).1
    obtain ⟨b0, b1⟩ := ix_of (ck_of (ck_of q).2).1
    obtain ⟨c0, c1⟩ := ix_of (ck_of (ck_of q).2).2
    unfold calR
    rw [pif_t q]
    exact bz_iff (h.1.1.2.2.2.2 s b c s0 s1 b0 b1 c0 c1)
theorem call_height {a m : Mm} (h : FU a m) (s b c d e : Int) : hghH s b c d e = none → wr (hgtC a s (b * 24 + c) d e) = wr (hghR m s b c d e) := by
  intro q
  obtain ⟨⟨s0, s1⟩, ⟨b0, b1⟩, ⟨c0, c1⟩, -⟩ := sl_of (ck_of q).1
  unfold hghR
  rw [pif_t q, show b * 24 + c = 24 * b + c by omega]
  exact sk_height (FU_hold h _).1.1 s0 s1 b0 b1 c0 c1
theorem call_light {a m : Mm} (h : FU a m) (b : Int) : ixC b 30 = none → moonC a b = lgtR m b := by
  intro q
  unfold lgtR
  rw [pif_t q]
  exact sk_moon (FU_hold h _).1.1 b
theorem call_seeing {a m : Mm} (h : FU a m) (s b c : Int) : slC s b c c = none → seenC a s (b * 24 + c) = msnR m s b c := by
  intro q
  obtain ⟨⟨s0, s1⟩, ⟨b0, b1⟩, ⟨c0, c1⟩, -⟩ := sl_of q
  unfold msnR
  rw [pif_t q, show b * 24 + c = 24 * b + c by omega]
  exact (sk_seen (FU_hold h _).1.1 s0 s1 b0 b1 c0 c1).1
theorem call_share {a m : Mm} (h : FU a m) (g b : Int) : (FU (pif (shrH g b = none) (st a 7 0 g (wr b)) a) (shrM m g b) ∧ rd (shrM m g b) 40 0 60 = cdX E0 (shrH g b)) ∧ (shrH g b = none → rd a 7 0 g = shrR m g b) := by
  refine ⟨md_call e0 h (fun q => ?_), fun q => ?_⟩
  · obtain ⟨g0, g1⟩ := ix_of (ck_of q).1
    exact ⟨tell_share (FU_hold h _) g0 g1, rd_st_ne (by decide)⟩
  · obtain ⟨g0, g1⟩ := ix_of (ck_of q).1
    unfold shrR
    rw [pif_t q, rh (Or.inl (by decide))]
    exact h.1.2.1.2.1 g g0 g1
theorem call_prop {a m : Mm} (h : FU a m) (g r q0 d : Int) : rd a 5 0 6 = rd m 40 0 12 ∧ (FU (pif (proH (rd m 40 0 12) g r q0 d = none) (proC a g r q0 d) a) (proM m g r q0 d) ∧ rd (proM m g r q0 d) 40 0 60 = cdX E0 (proH (rd m 40 0 12) g r q0 d)) ∧ (proH (rd m 40 0 12) g r q0 d = none → rd a 5 0 6 = proR m g r q0 d) := by
  have e6 : rd a 5 0 6 = rd m 40 0 12 := h.1.2.1.1.1
  have c0 : 0 ≤ rd m 40 0 12 := h.1.2.2.1.1
  refine ⟨e6, md_call e0 h (fun q => ?_), fun q => ?_⟩
  · obtain ⟨g0, g1⟩ := ix_of (ck_of q).1
    obtain ⟨r0, r1⟩ := rg_of (ck_of (ck_of q).2).1
    obtain ⟨q1, q2⟩ := rg_of (ck_of (ck_of (ck_of q).2).2).1
    obtain ⟨d0, d1⟩ := rg_of (ck_of (ck_of (ck_of (ck_of q).2).2).2).1
    have hc := st_of (ck_of (ck_of (ck_of (ck_of q).2).2).2).2
    refine ⟨tell_prop (FU_hold h _) g0 g1 r0 r1 q1 q2 d0 d1 (by rw [rh (Or.inr (by decide))]; exact hc), ?_⟩
    unfold proF
    rw [rd_st, if_neg (by omega), rd_st_ne (by decide), rd_st_ne (by decide), rd_st_ne (by decide), rd_st_ne (by decide)]
  · have hc := st_of (ck_of (ck_of (ck_of (ck_of q).2).2).2).2
    unfold proR proM
    rw [pif_t q, md_n q]
    unfold proF
    rw [rd_st, if_pos ⟨rfl, rfl, rfl⟩, wr_wr, rh (Or.inr (by decide)), wr_of (by omega) (by omega), e6]
    omega
theorem call_target {a m : Mm} (h : FU a m) (p b y d i f g v w : Int) : (rd a 5 0 6 = rd m 40 0 12 ∧ rd a 5 0 7 = rd m 40 0 25) ∧ (FU (pif (tgtH (rd m 40 0 12) (rd m 40 0 25) p b y d i f g v w = none) (tgC a p b y d i f g v w) a) (tgtM m p b y d i f g v w) ∧ rd (tgtM m p b y d i f g v w) 40 0 60 = cdX E0 (tgtH (rd m 40 0 12) (rd m 40 0 25) p b y d i f g v w)) ∧ (tgtH (rd m 40 0 12) (rd m 40 0 25) p b y d i f g v w = none → rd a 5 0 7 = tgtR m p b y d i f g v w) := by
  have e7 : rd a 5 0 7 = rd m 40 0 25 := h.1.2.1.1.2.1
  have c0 : 0 ≤ rd m 40 0 25 := h.1.2.2.2.1.1
  refine ⟨⟨h.1.2.1.1.1, e7⟩, md_call e0 h (fun q => ?_), fun q => ?_⟩
  · obtain ⟨p0, p1⟩ := ix_of (ck_of q).1
    obtain ⟨i0, i1⟩ := ix_of (ck_of (ck_of q).2).1
    have q3 := (ck_of (ck_of q).2).2
    obtain ⟨b0, b1⟩ := rg_of (ck_of (ck_of q3).1).1
    obtain ⟨y0, y1⟩ := rg_of (ck_of (ck_of q3).1).2
    have q4 := (ck_of q3).2
    obtain ⟨d0, d1⟩ := rg_of (ck_of q4).1
    have q5 := (ck_of q4).2
    obtain ⟨f0, f1⟩ := rg_of (ck_of q5).1
    have q6 := (ck_of q5).2
    obtain ⟨g0, g1⟩ := rg_of (ck_of q6).1
    have q7 := (ck_of q6).2
    obtain ⟨v0, v1⟩ := rg_of (ck_of q7).1
    have q8 := (ck_of q7).2
    obtain ⟨w0, w1⟩ := rg_of (ck_of q8).1
    have hc := st_of (ck_of q8).2
    refine ⟨tell_target (FU_hold h _) p0 (by rw [rh (Or.inr (by decide))]; exact p1) i0 i1 b0 b1 y0 y1 d0 d1 f0 f1 g0 g1 v0 v1 w0 w1 (by rw [rh (Or.inr (by decide))]; exact hc), ?_⟩
    unfold tgtF layC
    rw [rd_st, if_neg (by omega), rd_st_ne (by decide), rd_st_ne (by decide), rd_st_ne (by decide), rd_st_ne (by decide), rd_st_ne (by decide), rd_st_ne (by decide), rd_st_ne (by decide), rd_st_ne (by decide), rd_st_ne (by decide), rd_st_ne (by decide)]
  · have hc := st_of (ck_of (ck_of (ck_of (ck_of (ck_of (ck_of (ck_of (ck_of q).2).2).2).2).2).2).2).2
    unfold tgtR tgtM
    rw [pif_t q, md_n q]
    unfold tgtF
    rw [rd_st, if_pos ⟨rfl, rfl, rfl⟩, wr_wr, rh (Or.inr (by decide)), wr_of (by omega) (by omega), e7]
    omega
theorem call_series {a m : Mm} (h : FU a m) (t b c d : Int) : rd a 5 0 7 = rd m 40 0 25 ∧ ck (ixC t (rd a 5 0 7)) (ck (ixC b 30) (ck (rgC c 1 30) (ck (rgC d 0 5) (ck (rgC (2 * d) 0 (c - 1)) (stC (bz (rd a 18 t 12 = 0))))))) = serH (rd m 40 0 25) (rd m 63 0 t) t b c d ∧ (FU (pif (serH (rd m 40 0 25) (rd m 63 0 t) t b c d = none) (serC a t b c d) a) (serM m t b c d) ∧ rd (serM m t b c d) 40 0 60 = cdX E0 (serH (rd m 40 0 25) (rd m 63 0 t) t b c d)) := by
  have e7 : rd a 5 0 7 = rd m 40 0 25 := h.1.2.1.1.2.1
  refine ⟨e7, ?_, md_call e0 h (fun q => ?_)⟩
  · unfold serH
    rw [e7]
    by_cases q : 0 ≤ t ∧ t < rd m 40 0 25
    · rw [bz_iff (h.1.2.1.2.2.2.1 t q.1 q.2).1.2.2.2.2.2.2.2.1]
    · have : ixC t (rd m 40 0 25) = some xIx := if_neg q
      rw [this]; rfl
  · obtain ⟨t0, t1⟩ := ix_of (ck_of q).1
    obtain ⟨b0, b1⟩ := ix_of (ck_of (ck_of q).2).1
    obtain ⟨c0, c1⟩ := rg_of (ck_of (ck_of (ck_of q).2).2).1
    obtain ⟨d0, d1⟩ := rg_of (ck_of (ck_of (ck_of (ck_of q).2).2).2).1
    refine ⟨tell_series (FU_hold h _) t0 (by rw [rh (Or.inr (by decide))]; exact t1) b0 b1 c0 c1 d0 d1, ?_⟩
    unfold serF
    rw [rd_st_ne (by decide), rd_st_ne (by decide), rd_st_ne (by decide)]
theorem call_alert {a m : Mm} (h : FU a m) (g b c d e f n u v : Int) : rd a 5 0 8 = rd m 40 0 30 ∧ (FU (pif (altH (rd m 40 0 30) g b c d e f n u v = none) (alC a g b c d e f n u v) a) (altM m g b c d e f n u v) ∧ rd (altM m g b c d e f n u v) 40 0 60 = cdX E0 (altH (rd m 40 0 30) g b c d e f n u v)) ∧ (altH (rd m 40 0 30) g b c d e f n u v = none → rd a 5 0 8 = altR m g b c d e f n u v) := by
  have e8 : rd a 5 0 8 = rd m 40 0 30 := h.1.2.1.1.2.2
  have c0 : 0 ≤ rd m 40 0 30 := h.1.2.2.2.2.1.1
  refine ⟨e8, md_call e0 h (fun q => ?_), fun q => ?_⟩
  · obtain ⟨g0, g1⟩ := ix_of (ck_of q).1
    have q2 := (ck_of q).2
    obtain ⟨f0, f1⟩ := ix_of (ck_of q2).1
    have q3 := (ck_of q2).2
    obtain ⟨n0, n1⟩ := ix_of (ck_of q3).1
    have q4 := (ck_of q3).2
    obtain ⟨u0, u1⟩ := ix_of (ck_of q4).1
    have q5 := (ck_of q4).2
    obtain ⟨v0, v1⟩ := ix_of (ck_of q5).1
    have q6 := (ck_of q5).2
    obtain ⟨b0, b1⟩ := rg_of (ck_of q6).1
    have q7 := (ck_of q6).2
    obtain ⟨k0, k1⟩ := rg_of (ck_of (ck_of q7).1).1
    obtain ⟨d0, d1⟩ := rg_of (ck_of (ck_of q7).1).2
    have q8 := (ck_of q7).2
    obtain ⟨l0, l1⟩ := rg_of (ck_of q8).1
    have hc := st_of (ck_of (ck_of q8).2).2
    refine ⟨tell_alert (FU_hold h _) g0 g1 f0 f1 n0 n1 u0 u1 v0 v1 b0 b1 k0 k1 d0 d1 l0 l1 (by rw [rh (Or.inr (by decide))]; exact hc), ?_⟩
    unfold altF layC
    rw [rd_st, if_neg (by omega), rd_st_ne (by decide), rd_st_ne (by decide), rd_st_ne (by decide), rd_st_ne (by decide), rd_st_ne (by decide), rd_st_ne (by decide), rd_st_ne (by decide), rd_st_ne (by decide), rd_st_ne (by decide)]
  · have hc := st_of (ck_of (ck_of (ck_of (ck_of (ck_of (ck_of (ck_of (ck_of (ck_of q).2).2).2).2).2).2).2).2).2
    unfold altR altM
    rw [pif_t q, md_n q]
    unfold altF
    rw [rd_st, if_pos ⟨rfl, rfl, rfl⟩, wr_wr, rh (Or.inr (by decide)), wr_of (by omega) (by omega), e8]
    omega
