/-! ===== what a course's slot leaves of the other course ===== -/
def oth (x : Int) (k : Nat) (i : Int) : Prop := k < 20 ∨ (20 ≤ k ∧ k ≤ 25 ∧ i ≠ 30 + x) ∨ ((k = 26 ∨ k = 27 ∨ k = 28 ∨ k = 32 ∨ k = 33 ∨ k = 34) ∧ i ≠ x) ∨ (k = 31 ∧ (i < 27 * x ∨ 27 * x + 27 ≤ i)) ∨ 35 ≤ k
theorem rd_stx {mm : Mm} {k k' : Nat} {i j i' j' v : Int} (h : ¬ (k' = k ∧ i' = i)) : rd (st mm k i j v) k' i' j' = rd mm k' i' j' := by rw [rd_st, if_neg (fun c => h ⟨c.1, c.2.1⟩)]
theorem rdx_lose (a : Mm) (x v : Int) (k : Nat) (i j : Int) (h : ¬ (k = 31 ∧ i = v)) (h2 : ¬ (k = 32 ∧ i = x)) : rd (loseC a x v) k i j = rd a k i j := by
  unfold loseC
  by_cases q : rd a 31 v 0 = 0
  · rw [pif_t q]
  · rw [pif_f q, rd_begin _ _ _ _ _ _ _ h, rd_stx h2]
theorem rdx_keep (a : Mm) (x v s t q g u : Int) (k : Nat) (i j : Int) (h : ¬ ((k = 27 ∨ k = 28) ∧ i = x)) : rd (keepC a x v s t q g u) k i j = rd a k i j := by
  unfold keepC kpn kpC kp2 kp1
  by_cases c : rd a 27 x 1 < 100
  · rw [pif_t c, rd_stx (by omega), rd_stx (by omega), rd_stx (by omega), rd_stx (by omega), rd_stx (by omega), rd_stx (by omega), rd_stx (by omega), rd_stx (by omega)]
  · rw [pif_f c]
theorem rdx_add (a : Mm) (b t n : Int) (k : Nat) (i j : Int) (h : ¬ (21 ≤ k ∧ k ≤ 23 ∧ i = b)) : rd (addC a b t n) k i j = rd a k i j := by
  unfold addC ag3 ag2 ag1
  rw [rd_stx (by omega), rd_stx (by omega)]
  by_cases q : phC a b t n = -1
  · rw [pif_t q]
  · rw [pif_f q, rd_stx (by omega)]
theorem rdx_fin (a : Mm) (x v s : Int) (k : Nat) (i j : Int) (h : oth x k i) (hv : ¬ (k = 31 ∧ i = v)) : rd (finC a x v s) k i j = rd a k i j := by
  unfold oth at h
  unfold finC fin4
  rw [rd_begin _ _ _ _ _ _ _ hv, rd_stx (by omega)]
  unfold fin3
  have e2 : rd (fin2 a (fin1 a x v s) x v) k i j = rd a k i j := by
    unfold fin2 fin1
    rw [rd_stx (by omega)]
    exact rdx_keep _ _ _ _ _ _ _ _ _ _ _ (by omega)
  by_cases q : rd (fin2 a (fin1 a x v s) x v) 31 v 0 = 2
  · rw [pif_t q, rd_stx (by omega), e2]
  · rw [pif_f q]
    by_cases q2 : finG a x v s = 0
    · rw [pif_t q2, e2]
    · rw [pif_f q2, rdx_add _ _ _ _ _ _ _ (by omega), e2]
theorem rdx_obsv (a : Mm) (x v s : Int) (k : Nat) (i j : Int) (h : oth x k i) (hv : ¬ (k = 31 ∧ i = v)) : rd (obsvC a x v s) k i j = rd a k i j := by
  unfold obsvC
  have e : rd (ob2 (ob1 a v) x v s) k i j = rd a k i j := rd_ob _ _ _ _ _ _ _ (by omega)
  by_cases q : rd (ob2 (ob1 a v) x v s) 31 v 2 < aimF (ob2 (ob1 a v) x v s) v 3
  · rw [pif_t q, e]
  · rw [pif_f q, rdx_fin _ _ _ _ _ _ _ h hv, e]
theorem rdx_alert (a : Mm) (x v s : Int) (k : Nat) (i j : Int) (h : ¬ (k = 31 ∧ i = v)) (h2 : ¬ (k = 32 ∧ i = x)) : rd (alertC a x v s) k i j = rd a k i j := by
  unfold alertC
  by_cases q : alB a x v s = -1
  · rw [pif_t q]
  · rw [pif_f q, rd_begin _ _ _ _ _ _ _ h, rdx_lose _ _ _ _ _ _ h h2]
theorem rdx_site {a m : Mm} {x s n u : Int} (hI : IA a) (hP : PR a m) (hC : CR a m x) (s0 : 0 ≤ s) (s1 : s < 3) (k : Nat) (i j : Int) (h : oth x k i) : rd (siteC a x s) k i j = rd a k i j := by
  have hT : rd m 40 0 25 ≤ 24 := hP.2.2.2.1.2
  have h' := h
  unfold oth at h'
  unfold siteC
  by_cases q : seenC a s (rd a 26 x 8) = 0
  · rw [pif_t q]
    unfold stB
    rw [rd_stx (by omega)]
    unfold breakC
    by_cases q2 : rd a 31 (27 * x + s) 0 = 1
    · have hn : 0 ≤ rd a 31 (27 * x + s) 1 ∧ rd a 31 (27 * x + s) 1 < 24 := by
        rcases hC.2.1 s s0 s1 with ⟨g1, g2, g3⟩ | ⟨g1, g2, g3, g4⟩ | ⟨g1, g2, g3⟩ <;> omega
      rw [pif_t q2, rd_stx (by omega), rd_take _ _ _ _ _ _ (by omega)]
    · rw [pif_f q2, rdx_lose _ _ _ _ _ _ (by omega) (by omega)]
  · rw [pif_f q]
    have e1 : rd (alertC a x (27 * x + s) s) k i j = rd a k i j := rdx_alert _ _ _ _ _ _ _ (by omega) (by omega)
    have hI1 : IA (alertC a x (27 * x + s) s) := IA_of hI (fun k i j hk => rd_alert _ _ _ _ _ _ _ (by omega) (by omega))
    generalize alertC a x (27 * x + s) s = a1 at e1 hI1 ⊢
    have e2 : rd (st2 a1 x s) k i j = rd a1 k i j := by
      unfold st2 resumeC
      by_cases c : rd a1 31 (27 * x + s) 0 = 0
      · rw [pif_t c]
        by_cases c2 : reB a1 x s = -1
        · rw [pif_t c2]
        · have hr := reB_range hI1 x s
          rw [pif_f c2, rd_take _ _ _ _ _ _ (by omega)]
      · rw [pif_f c]
    generalize st2 a1 x s = a2 at e2 ⊢
    have e3 : rd (st3 a2 x s) k i j = rd a2 k i j := by
      unfold st3
      by_cases c : rd a2 31 (27 * x + s) 0 = 0
      · rw [pif_t c]; exact rd_target _ _ _ _ _ _ _ (by omega)
      · rw [pif_f c]
    generalize st3 a2 x s = a3 at e3 ⊢
    have e4 : rd (st4 a3 x s) k i j = rd a3 k i j := by
      unfold st4
      by_cases c : rd a3 31 (27 * x + s) 0 = 0
      · rw [pif_t c, rd_stx (by omega)]
      · rw [pif_f c]; exact rdx_obsv _ _ _ _ _ _ _ h (by omega)
    rw [e4, e3, e2, e1]
theorem rdx_slot {a m : Mm} {x n u : Int} (hI : IA a) (hP : PR a m) (hx : x = 0 ∨ x = 1) (hC : CR a m x) (hw : rd a 26 x 8 = 24 * n + u) (n0 : 0 ≤ n) (n1 : n < 30) (u0 : 0 ≤ u) (u1 : u < 24) (k : Nat) (i j : Int) (h : oth x k i) : rd (slotC a x) k i j = rd a k i j := by
  obtain ⟨c0, p0, w0⟩ := site_step hP hx hC hw (s := 0) (by decide) (by decide) n0 n1 u0 u1
  obtain ⟨c1, p1, w1⟩ := site_step p0 hx c0 w0 (s := 0 + 1) (by decide) (by decide) n0 n1 u0 u1
  have e : rd (sitesC a x) k i j = rd a k i j := by
    unfold sitesC
    rw [rdx_site (n := n) (u := u) (IA_site (IA_site hI _ _) _ _) p1 c1 (by decide) (by decide) k i j h, rdx_site (n := n) (u := u) (IA_site hI _ _) p0 c0 (by decide) (by decide) k i j h, rdx_site (n := n) (u := u) hI hP hC (by decide) (by decide) k i j h]
  unfold oth at h
  have et : rd (tick (sitesC a x) x) k i j = rd a k i j := by unfold tick; rw [rd_stx (by omega), e]
  unfold slotC
  by_cases q : jrem (rd (tick (sitesC a x) x) 26 x 8) 24 = 0
  · rw [pif_t q]
    unfold enC
    refine fori_keep (P := fun m9 => rd m9 k i j = rd a k i j) 0 24 (fun t m9 t0 t1 h9 => (rdx_lose _ _ _ _ _ _ (by omega) (by omega)).trans h9) 24 0 _ (by decide) (by decide) ?_
    rw [rdx_lose _ _ _ _ _ _ (by omega) (by omega), rdx_lose _ _ _ _ _ _ (by omega) (by omega), rdx_lose _ _ _ _ _ _ (by omega) (by omega), et]
  · rw [pif_f q, et]
/-- with the replays' flag up, the model's data stay -/
theorem dat_d8 (m : Mm) (s n u w q f e : Int) (h5 : ¬ rd m 40 0 50 = 0) : d8 m s n u w q f e = m := by unfold d8; rw [pif_f (fun c => h5 c.1)]
theorem dat_don (m : Mm) (s n u : Int) (h5 : ¬ rd m 40 0 50 = 0) (k : Nat) (j : Int) (h : (93 ≤ k ∧ k ≤ 98) ∨ (k = 40 ∧ j = 58)) : rd (donC m s n u) k 0 j = rd m k 0 j := by
  unfold donC donF
  have e : ∀ (k : Nat) (i j : Int), (93 ≤ k ∧ k ≤ 98) ∨ (k = 40 ∧ (j = 58 ∨ j = 50)) → rd (d6 (d2 (d1 m (rd m 80 0 s)) (bz (dG m s n (rd m 80 0 s)))) (rd m 80 0 s) n (bz (dG m s n (rd m 80 0 s)))) k i j = rd m k i j := fun k i j hk => by
    rw [rd_d6 _ _ _ _ _ _ _ (by omega)]
    unfold d2 d1
    rw [rd_st, if_neg (by omega), rd_st_ne (by omega)]
  rw [dat_d8 _ _ _ _ _ _ _ _ (by rw [e 40 0 50 (by omega)]; exact h5), rd_st_ne (by omega), e k 0 j (by omega)]
theorem dat_site (m : Mm) (s n u : Int) (h5 : ¬ rd m 40 0 50 = 0) (k : Nat) (j : Int) (h : (93 ≤ k ∧ k ≤ 98) ∨ (k = 40 ∧ j = 58)) : rd (siM m s n u) k 0 j = rd m k 0 j := by
  unfold siM
  by_cases q : msnC m s n u = 0
  · rw [pif_t q]
    unfold siF
    rw [rd_st_ne (by omega), rd_mcl _ _ _ _ _ _ (by omega)]
  · rw [pif_f q]
    have e : ∀ (k : Nat) (j : Int), (93 ≤ k ∧ k ≤ 98) ∨ k = 40 → rd (siD (siB (siA m s n u) s n u) s n u) k 0 j = rd m k 0 j := fun k j hk => by
      rw [rd_siD _ _ _ _ _ _ _ (by omega), rd_siB _ _ _ _ _ _ _ (by omega)]; exact rd_alm _ _ _ _ _ _ _ (by omega)
    generalize siD (siB (siA m s n u) s n u) s n u = m3 at e ⊢
    unfold siE
    by_cases c : rd m3 80 0 s < 0
    · rw [pif_t c, rd_st_ne (by omega), e k j (by omega)]
    · rw [pif_f c]
      have e2 : ∀ (k : Nat) (j : Int), (93 ≤ k ∧ k ≤ 98) ∨ k = 40 → rd (si2 (si1 m3 s) s n u) k 0 j = rd m k 0 j := fun k j hk => by
        unfold si2 si1
        rw [rd_st_ne (by omega), rd_st_ne (by omega), e k j hk]
      unfold si3
      by_cases c2 : rd (si2 (si1 m3 s) s n u) 81 0 s = rd (si2 (si1 m3 s) s n u) 57 0 (rd (si2 (si1 m3 s) s n u) 80 0 s)
      · rw [pif_t c2, dat_don _ _ _ _ (by rw [e2 40 50 (Or.inr rfl)]; exact h5) k j h, e2 k j (by omega)]
      · rw [pif_f c2, e2 k j (by omega)]
theorem dat_slot (m : Mm) (n u : Int) (h5 : ¬ rd m 40 0 50 = 0) (k : Nat) (j : Int) (h : (93 ≤ k ∧ k ≤ 98) ∨ (k = 40 ∧ j = 58)) : rd (slM m n u) k 0 j = rd m k 0 j := by
  have s50 : sK 40 50 := by unfold sK; omega
  have e : rd (slA m n u) k 0 j = rd m k 0 j := by
    unfold slA
    rw [dat_site _ _ _ _ (by rw [rd_siM _ _ _ _ _ _ _ s50, rd_siM _ _ _ _ _ _ _ s50]; exact h5) k j h, dat_site _ _ _ _ (by rw [rd_siM _ _ _ _ _ _ _ s50]; exact h5) k j h, dat_site _ _ _ _ h5 k j h]
  unfold slM
  by_cases q : u = 23
  · rw [pif_t q]
    unfold slE
    refine fori_mk (P := fun m9 => rd m9 k 0 j = rd m k 0 j) (fun t m9 h9 => (rd_slT _ _ _ _ _ (by omega) (by omega)).trans h9) _ _ _ ?_
    rw [rd_slB _ _ _ _ _ (by omega) (by omega), rd_slB _ _ _ _ _ (by omega) (by omega), rd_slB _ _ _ _ _ (by omega) (by omega), e]
  · rw [pif_f q, e]
