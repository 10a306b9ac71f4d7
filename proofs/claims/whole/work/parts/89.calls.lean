/-! ===== class and model side by side, XXIV: each call's answer (2) ===== -/
theorem call_wants {a m : Mm} (h : FU a m) (t n : Int) : rd a 5 0 7 = rd m 40 0 25 ∧ (ck (ixC t (rd m 40 0 25)) (ixC n 30) = none → bz (wantC a (30 + 0) t n) = mwaR m t n) := by
  refine ⟨h.1.2.1.1.2.1, fun q => ?_⟩
  have hT : rd m 40 0 25 ≤ 24 := h.1.2.2.2.1.2
  obtain ⟨t0, t1⟩ := ix_of (ck_of q).1
  obtain ⟨n0, n1⟩ := ix_of (ck_of q).2
  unfold mwaR
  rw [pif_t q]
  have h9 := FU_hold h (cdX E0 (ck (ixC t (rd m 40 0 25)) (ixC n 30)))
  exact bz_iff (tg_want (h9.1.2.1.2.2.2.1 t t0 (by rw [rh (Or.inr (by decide))]; exact t1)).1 h9.2.1.1 t0 (by omega) n0 n1)
theorem call_chances {a m : Mm} (h : FU a m) (t s n : Int) : rd a 5 0 7 = rd m 40 0 25 ∧ (chaH (rd m 40 0 25) t s n = none → chanC a t s n = mchR m t s n) := by
  refine ⟨h.1.2.1.1.2.1, fun q => ?_⟩
  obtain ⟨t0, t1⟩ := ix_of (ck_of q).1
  obtain ⟨s0, s1⟩ := ix_of (ck_of (ck_of q).2).1
  obtain ⟨n0, n1⟩ := ix_of (ck_of (ck_of q).2).2
  unfold mchR
  rw [pif_t q]
  exact pr_chan (FU_hold h _).1 t0 (by rw [rh (Or.inr (by decide))]; exact t1) s0 s1 n0 n1
theorem s60 : sK 40 60 := by unfold sK; omega
theorem mru_60 : ∀ (k : Nat) (m : Mm), rd (mruM k m) 40 0 60 = rd m 40 0 60
  | 0, _ => rfl
  | k + 1, m => by
    unfold mruM
    by_cases q : rd m 40 0 45 < 720
    · rw [pif_t q, mru_60 k]
      unfold mruS mruT
      rw [rd_st, if_neg (by omega), rd_slM _ _ _ _ _ _ s60, rd_mruB _ _ _ _ (by decide)]
    · rw [pif_f q]
theorem call_run {a m : Mm} (h : FU a m) (b : Int) : (FU (pif (rgC b 1 48 = none) (runM b.toNat a) a) (mrnM m b) ∧ rd (mrnM m b) 40 0 60 = cdX E1 (rgC b 1 48)) ∧ (rgC b 1 48 = none → runI b.toNat 0 a = mrnR m b) := by
  have h9 := fun z => run_eq b.toNat 0 a (hold m z) (FU_hold h z)
  refine ⟨md_call e1 h (fun q => ⟨(h9 _).2, mru_60 _ _⟩), fun q => ?_⟩
  unfold mrnR
  rw [pif_t q]
  exact (h9 _).1
theorem call_now {a m : Mm} (h : FU a m) : rd a 26 0 8 = rd (hold m 0) 40 0 45 := by rw [rh (Or.inr (by decide))]; exact h.2.2.2.2.2.1
theorem call_going {a m : Mm} (h : FU a m) (s b : Int) : ck (ixC s 3) (rgC b 0 2) = none → rd a 31 (27 * 0 + s) b = mgnR m s b := by
  intro q
  obtain ⟨s0, s1⟩ := ix_of (ck_of q).1
  obtain ⟨b0, b1⟩ := rg_of (ck_of q).2
  unfold mgnR
  rw [pif_t q]
  unfold mgnV
  rw [rh (Or.inl (by decide)), rh (Or.inl (by decide))]
  have hT : rd m 40 0 25 ≤ 24 := h.1.2.2.2.1.2
  have hv := h.2.1.2.1 s s0 s1
  rcases (show b = 0 ∨ b = 1 ∨ b = 2 by omega) with rfl | rfl | rfl
  · rw [pif_t (p := (0 : Int) = 0) rfl]
    rcases hv with ⟨g1, g2, g3, g4⟩ | ⟨g1, g2, g3, g4, g5, g6⟩ | ⟨g1, g2, g3, g4, g5, g6⟩
    · rw [pif_f (by omega)]; exact g2
    · rw [pif_t (by omega), pif_t (by omega)]; exact g2
    · rw [pif_t (by omega), pif_f (by omega)]; exact g2
  · rw [pif_f (p := (1 : Int) = 0) (by decide), pif_t (p := (1 : Int) = 1) rfl]
    rcases hv with ⟨g1, g2, g3, g4⟩ | ⟨g1, g2, g3, g4, g5, g6⟩ | ⟨g1, g2, g3, g4, g5, g6⟩
    · rw [pif_t (by omega), g1]; exact g3
    · rw [pif_t (by omega)]; exact g3
    · rw [pif_f (by omega)]; exact g3
  · rw [pif_f (p := (2 : Int) = 0) (by decide), pif_f (p := (2 : Int) = 1) (by decide)]
    rcases hv with ⟨g1, g2, g3, g4⟩ | ⟨g1, g2, g3, g4, g5, g6⟩ | ⟨g1, g2, g3, g4, g5, g6⟩
    · rw [pif_f (by omega)]; exact g4
    · rw [pif_t (by omega)]; exact g4
    · rw [pif_t (by omega)]; exact g4
theorem call_waiting {a m : Mm} (h : FU a m) : waitC a = mwtC (hold m 0) := by
  unfold waitC mwtC
  refine cntT_congr _ _ _ (fun z z0 z1 => ?_)
  rw [rh (Or.inl (by decide))]
  rcases h.2.1.2.2.1 z z0 (by omega) with ⟨w1, w2⟩ | ⟨w1, w2, w3, w4, w5⟩ <;> omega
theorem call_visits {a m : Mm} (h : FU a m) (t : Int) : rd a 5 0 7 = rd m 40 0 25 ∧ (ixC t (rd m 40 0 25) = none → rd a 21 (30 + 0) t = mviR m t) := by
  refine ⟨h.1.2.1.1.2.1, fun q => ?_⟩
  have hT : rd m 40 0 25 ≤ 24 := h.1.2.2.2.1.2
  obtain ⟨t0, t1⟩ := ix_of q
  unfold mviR
  rw [pif_t q, rh (Or.inl (by decide))]
  exact (h.2.1.1.1 t t0 (by omega)).1
theorem call_served {a m : Mm} (h : FU a m) (t : Int) : rd a 5 0 8 = rd m 40 0 30 ∧ (ixC t (rd m 40 0 30) = none → rd a 24 (30 + 0) t = msvR m t) := by
  refine ⟨h.1.2.1.1.2.2, fun q => ?_⟩
  have hT : rd m 40 0 30 ≤ 10 := h.1.2.2.2.2.1.2
  obtain ⟨t0, t1⟩ := ix_of q
  unfold msvR
  rw [pif_t q, rh (Or.inl (by decide))]
  obtain ⟨g1, g2⟩ := h.2.1.1.2.1 t t0 (by omega)
  rcases g1 with g | g
  · rw [bz_f (by have := g2.mp g; omega)]; exact g
  · rw [bz_t (by
      rcases Int.lt_or_le (rd m 75 0 t) 0 with c | c
      · have := g2.mpr c; omega
      · exact c)]; exact g
theorem call_slots {a m : Mm} (h : FU a m) (g z : Int) : ixC g 4 = none → sltC a g z = mslR m g z := by
  intro q
  obtain ⟨g0, g1⟩ := ix_of q
  unfold sltC mslR
  rw [pif_t q, rh (Or.inl (by decide)), rh (Or.inl (by decide))]
  rw [show rd a 25 (30 + 0) g = rd m 76 0 g from h.2.1.1.2.2 g g0 g1, (h.2.1.2.2.2.2.2.2 rfl).1 g g0 g1]
theorem call_lost {a m : Mm} (h : FU a m) (s z : Int) : ixC s 3 = none → lstC a s z = mloR m s z := by
  intro q
  obtain ⟨s0, s1⟩ := ix_of q
  unfold lstC mloR
  obtain ⟨g1, g2⟩ := (h.2.1.2.2.2.2.2.2 rfl).2.1 s s0 s1
  rw [pif_t q, rh (Or.inl (by decide)), rh (Or.inl (by decide)), g1, g2]
theorem FU_dat {a m : Mm} (h : FU a m) : rd a 27 0 1 = rd m 40 0 58 ∧ (0 ≤ rd m 40 0 58 ∧ rd m 40 0 58 ≤ 100) ∧ ∀ d, 0 ≤ d → d < rd m 40 0 58 → daR a m d := (h.2.1.2.2.2.2.2.2 rfl).2.2
theorem call_data {a m : Mm} (h : FU a m) : rd a 27 0 1 = rd (hold m 0) 40 0 58 := by rw [rh (Or.inr (by decide))]; exact (FU_dat h).1
theorem call_datum {a m : Mm} (h : FU a m) (d b : Int) : rd a 27 0 1 = rd m 40 0 58 ∧ (mdtH (rd m 40 0 58) d b = none → rd a 28 0 (d * 7 + b) = mdtR m d b) := by
  refine ⟨(FU_dat h).1, fun q => ?_⟩
  obtain ⟨d0, d1⟩ := ix_of (ck_of q).1
  obtain ⟨b0, b1⟩ := rg_of (ck_of q).2
  obtain ⟨k0, k1, k2, k3, k4, k5, k6, -⟩ := (FU_dat h).2.2 d d0 d1
  unfold mdtR
  rw [pif_t q]
  unfold mdtV
  rw [rh (Or.inl (by decide)), rh (Or.inl (by decide)), rh (Or.inl (by decide)), rh (Or.inl (by decide)), rh (Or.inl (by decide)), rh (Or.inl (by decide))]
  have hp : ∀ x y : Int, pif (rd m 93 0 d ≤ 23) x y = if rd m 93 0 d ≤ 23 then x else y := fun x y => by
    by_cases c : rd m 93 0 d ≤ 23
    · rw [pif_t c, if_pos c]
    · rw [pif_f c, if_neg c]
  rcases (show b = 0 ∨ b = 1 ∨ b = 2 ∨ b = 3 ∨ b = 4 ∨ b = 5 ∨ b = 6 by omega) with rfl | rfl | rfl | rfl | rfl | rfl | rfl
  · rw [pif_t (p := (0 : Int) = 0) rfl, hp, Int.add_zero]; exact k0
  · rw [pif_f (p := (1 : Int) = 0) (by decide), pif_t (p := (1 : Int) = 1) rfl, hp]; exact k1
  · rw [pif_f (p := (2 : Int) = 0) (by decide), pif_f (p := (2 : Int) = 1) (by decide), pif_t (p := (2 : Int) = 2) rfl]; exact k2
  · rw [pif_f (p := (3 : Int) = 0) (by decide), pif_f (p := (3 : Int) = 1) (by decide), pif_f (p := (3 : Int) = 2) (by decide), pif_t (p := (3 : Int) = 3) rfl]; exact k3
  · rw [pif_f (p := (4 : Int) = 0) (by decide), pif_f (p := (4 : Int) = 1) (by decide), pif_f (p := (4 : Int) = 2) (by decide), pif_f (p := (4 : Int) = 3) (by decide), pif_t (p := (4 : Int) = 4) rfl]; exact k4
  · rw [pif_f (p := (5 : Int) = 0) (by decide), pif_f (p := (5 : Int) = 1) (by decide), pif_f (p := (5 : Int) = 2) (by decide), pif_f (p := (5 : Int) = 3) (by decide), pif_f (p := (5 : Int) = 4) (by decide), pif_t (p := (5 : Int) = 5) rfl]; exact k5
  · rw [pif_f (p := (6 : Int) = 0) (by decide), pif_f (p := (6 : Int) = 1) (by decide), pif_f (p := (6 : Int) = 2) (by decide), pif_f (p := (6 : Int) = 3) (by decide), pif_f (p := (6 : Int) = 4) (by decide), pif_f (p := (6 : Int) = 5) (by decide)]; exact k6
theorem dat_hP {a m : Mm} (h : FU a m) : ∀ b, 0 ≤ b → b < rd a 27 0 1 → ¬ rd a 28 0 (b * 7) = 2 → 0 ≤ rd a 28 0 (b * 7 + 1) ∧ rd a 28 0 (b * 7 + 1) < 24 := by
  intro b b0 b1 hb
  rw [(FU_dat h).1] at b1
  obtain ⟨k0, k1, -, -, -, -, -, k7, k8, k9, -⟩ := (FU_dat h).2.2 b b0 b1
  have hT : rd m 40 0 25 ≤ 24 := h.1.2.2.2.1.2
  by_cases c : rd m 93 0 b ≤ 23
  · rw [if_pos c] at k1
    rw [k1]; have := k9 c; omega
  · rw [if_neg c] at k0; exact absurd k0 hb
theorem dat_hd {a m : Mm} (h : FU a m) : ∀ b, 0 ≤ b → b < rd m 40 0 58 → 0 ≤ rd m 93 0 b := fun b b0 b1 => ((FU_dat h).2.2 b b0 b1).2.2.2.2.2.2.2.1
theorem call_reads {a m : Mm} (h : FU a m) (g b c : Int) : rd a 27 0 1 = rd m 40 0 58 ∧ (reaH (rd m 40 0 58) g b c = none → bz (crdP a g b c) = reaR m g b c) := by
  refine ⟨(FU_dat h).1, fun q => ?_⟩
  obtain ⟨b0, b1⟩ := ix_of (ck_of (ck_of q).2).1
  obtain ⟨k0, k1, k2, k3, -, -, -, k7, k8, k9, -⟩ := (FU_dat h).2.2 b b0 b1
  unfold reaR
  rw [pif_t q]
  unfold crdP reaP crdN reaN crdT
  rw [rh (Or.inl (by decide)), rh (Or.inl (by decide)), rh (Or.inl (by decide)), rh (Or.inl (by decide)), rh (Or.inl (by decide)), k3, k0, k1]
  refine bz_iff (and_congr_right fun _ => ?_)
  have hT : rd m 40 0 25 ≤ 24 := h.1.2.2.2.1.2
  by_cases e : rd m 93 0 b ≤ 23
  · rw [if_pos e, if_pos e]
    obtain ⟨⟨f1, f2, f3, f4⟩, f5⟩ := h.1.2.1.2.2.2.1 _ k7 (k9 e)
    have hp := h.1.2.2.2.2.2.1 _ k7 (show rd m 93 0 b < 34 by omega)
    have f6 := (h.1.2.1.2.2.1 _ hp.1.1 (by have := h.1.2.2.1.2; omega)).2.2.2.1
    rw [f3, f2, f6]
    constructor
    · rintro (x | x | x)
      · omega
      · exact Or.inr (Or.inr x.symm)
      · exact Or.inr (Or.inl x)
    · rintro (x | x | x)
      · omega
      · exact Or.inr (Or.inr x)
      · exact Or.inr (Or.inl x.symm)
  · rw [if_neg e]
    exact ⟨fun _ => Or.inl (by omega), fun _ => Or.inl rfl⟩
theorem rep_60 (m : Mm) (n : Int) : rd (reFin m n) 40 0 60 = rd m 40 0 60 := by
  unfold reFin
  rw [show (Nat.beq 1 1) = true from rfl, kq_o _ _ _ _ _ (Or.inl (by decide)), rd_st, if_neg (by omega)]
  have e : rd (reRun m n) 40 0 60 = rd (rePre m n) 40 0 60 := by
    unfold reRun
    exact fori_60 _ (fun t m => rd_slM _ _ _ _ _ _ s60) _ _ _
  rw [e, rePre_r _ _ _ _ _ (by omega), gb_o _ _ _ _ _ (by decide), kq_f _ _ _ _ (by decide)]
theorem call_replay {a m : Mm} (h : FU a m) (n : Int) : rd a 26 0 8 = rd m 40 0 45 ∧ (FU (pif (rplH (rd m 40 0 45) n = none) (repM a n) a) (rplM m n) ∧ rd (rplM m n) 40 0 60 = cdX E2 (rplH (rd m 40 0 45) n)) ∧ (rplH (rd m 40 0 45) n = none → rd (repM a n) 26 1 9 = rplR m n) := by
  have h9 : rplH (rd m 40 0 45) n = none → FU (repM a n) (reFin (hold m (cdX E2 (rplH (rd m 40 0 45) n))) n) ∧ rd (repM a n) 26 1 9 = rd (reFin (hold m (cdX E2 (rplH (rd m 40 0 45) n))) n) 40 0 51 := fun q => by
    obtain ⟨n0, n1⟩ := ix_of (ck_of q).1
    have hc := st_of (ck_of q).2
    exact rep_step (FU_hold h _) n0 n1 (by rw [rh (Or.inr (by decide))]; omega)
  refine ⟨h.2.2.2.2.2.1, md_call e2 h (fun q => ⟨(h9 q).1, rep_60 _ _⟩), fun q => ?_⟩
  unfold rplR rplM
  rw [pif_t q, md_n q]
  exact (h9 q).2
theorem call_best {a m : Mm} (h : FU a m) (s n : Int) : (FU (pif (ck (ixC s 3) (ixC n 30) = none) (bstM a s n) a) (mbsM m s n) ∧ rd (mbsM m s n) 40 0 60 = cdX E0 (ck (ixC s 3) (ixC n 30))) ∧ (ck (ixC s 3) (ixC n 30) = none → bstR a s n = mbsR m s n) := by
  have h9 : ck (ixC s 3) (ixC n 30) = none → bstR a s n = mboV (hold m (cdX E0 (ck (ixC s 3) (ixC n 30)))) s n ∧ FU (bstM a s n) (mboM (hold m (cdX E0 (ck (ixC s 3) (ixC n 30)))) s n) := fun q => by
    obtain ⟨s0, s1⟩ := ix_of (ck_of q).1
    obtain ⟨n0, n1⟩ := ix_of (ck_of q).2
    exact best_step (FU_hold h _) s0 s1 n0 n1
  refine ⟨md_call e0 h (fun q => ⟨(h9 q).2, ?_⟩), fun q => ?_⟩
  · have hw : ∀ (k : Nat) (i z : Int) (m : Mm), rd (mwM s n k i z m) 40 0 60 = rd m 40 0 60 := by
      intro k
      induction k with
      | zero => intro i z m; rfl
      | succ k ih =>
        intro i z m
        unfold mwM
        by_cases c : z < 5
        · rw [pif_t c]
          by_cases c2 : mwnP m i n ∧ 0 < mchC m i s n
          · rw [pif_t c2, ih]; exact rd_st_ne (by decide)
          · rw [pif_f c2, ih]
        · rw [pif_f c]
    exact hw _ _ _ _
  · unfold mbsR
    rw [pif_t q]
    exact (h9 q).1
