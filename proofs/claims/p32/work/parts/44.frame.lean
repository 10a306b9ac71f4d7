/-! ===== what a course's slot leaves of the other course; books ===== -/
def oth (x : Int) (k : Nat) (i : Int) : Prop := k < 20 ∨ (20 ≤ k ∧ k ≤ 25 ∧ i ≠ 30 + x) ∨ ((k = 26 ∨ k = 27 ∨ k = 28 ∨ k = 32 ∨ k = 33 ∨ k = 34) ∧ i ≠ x) ∨ (k = 31 ∧ (i < 27 * x ∨ 27 * x + 27 ≤ i)) ∨ 35 ≤ k
theorem rd_stx {mm : Mm} {k k' : Nat} {i j i' j' v : Int} (h : ¬ (k' = k ∧ i' = i)) : rd (st mm k i j v) k' i' j' = rd mm k' i' j' := by rw [rd_st, if_neg (fun c => h ⟨c.1, c.2.1⟩)]
theorem rdx_lose (a : Mm) (x v : Int) (k : Nat) (i j : Int) (h : ¬ (k = 31 ∧ i = v)) (h2 : ¬ (k = 32 ∧ i = x)) : rd (loseC a x v) k i j = rd a k i j := by
  unfold loseC
  by_cases q : rd a 31 v 0 = 0
  · rw [pif_t q]
  · rw [pif_f q, rd_begin _ _ _ _ _ _ _ h, rd_stx h2]
theorem rdx_keep (a : Mm) (x v s t q g u : Int) (k : Nat) (i j : Int) (h : ¬ ((k = 27 ∨ k = 28) ∧ i = x)) : rd (keepC a x v s t q g u) k i j = rd a k i j := by
  unfold keepC kpn kpC kp2 kp1
  by_cases c : rd a 27 x 1 < 100
  · rw [pif_t c, rd_stx (by omega), rd_stx (by omega), rd_stx (by omega), rd_stx (by omega), rd_stx (by omega), rd_stx (by omega), rd_stx (by omega), rd_stx (by omega)]
  · rw [pif_f c]
theorem rdx_add (a : Mm) (b t n : Int) (k : Nat) (i j : Int) (h : ¬ (21 ≤ k ∧ k ≤ 23 ∧ i = b)) : rd (addC a b t n) k i j = rd a k i j := by
  unfold addC ag3 ag2 ag1
  rw [rd_stx (by omega), rd_stx (by omega)]
  by_cases q : phC a b t n = -1
  · rw [pif_t q]
  · rw [pif_f q, rd_stx (by omega)]
theorem rdx_fin (a : Mm) (x v s : Int) (k : Nat) (i j : Int) (h : oth x k i) (hv : ¬ (k = 31 ∧ i = v)) : rd (finC a x v s) k i j = rd a k i j := by
  unfold oth at h
  unfold finC fin4
  rw [rd_begin _ _ _ _ _ _ _ hv, rd_stx (by omega)]
  unfold fin3
  have e2 : rd (fin2 a (fin1 a x v s) x v) k i j = rd a k i j := by
    unfold fin2 fin1
    rw [rd_stx (by omega)]
    exact rdx_keep _ _ _ _ _ _ _ _ _ _ _ (by omega)
  by_cases q : rd (fin2 a (fin1 a x v s) x v) 31 v 0 = 2
  · rw [pif_t q, rd_stx (by omega), e2]
  · rw [pif_f q]
    by_cases q2 : finG a x v s = 0
    · rw [pif_t q2, e2]
    · rw [pif_f q2, rdx_add _ _ _ _ _ _ _ (by omega), e2]
theorem rdx_obsv (a : Mm) (x v s : Int) (k : Nat) (i j : Int) (h : oth x k i) (hv : ¬ (k = 31 ∧ i = v)) : rd (obsvC a x v s) k i j = rd a k i j := by
  unfold obsvC
  have e : rd (ob2 (ob1 a v) x v s) k i j = rd a k i j := rd_ob _ _ _ _ _ _ _ (by omega)
  by_cases q : rd (ob2 (ob1 a v) x v s) 31 v 2 < aimF (ob2 (ob1 a v) x v s) v 3
  · rw [pif_t q, e]
  · rw [pif_f q, rdx_fin _ _ _ _ _ _ _ h hv, e]
theorem rdx_alert (a : Mm) (x v s : Int) (k : Nat) (i j : Int) (h : ¬ (k = 31 ∧ i = v)) (h2 : ¬ (k = 32 ∧ i = x)) : rd (alertC a x v s) k i j = rd a k i j := by
  unfold alertC
  by_cases q : alB a x v s = -1
  · rw [pif_t q]
  · rw [pif_f q, rd_begin _ _ _ _ _ _ _ h, rdx_lose _ _ _ _ _ _ h h2]
theorem rdx_site {a : Mm} {x s : Int} (hI : IA a) (hC : IC a x) (s0 : 0 ≤ s) (s1 : s < 3) (k : Nat) (i j : Int) (h : oth x k i) : rd (siteC a x s) k i j = rd a k i j := by
  have h' := h
  unfold oth at h'
  unfold siteC
  by_cases q : seenC a s (rd a 26 x 8) = 0
  · rw [pif_t q]
    unfold stB
    rw [rd_stx (by omega)]
    unfold breakC
    by_cases q2 : rd a 31 (27 * x + s) 0 = 1
    · have hn : 0 ≤ rd a 31 (27 * x + s) 1 ∧ rd a 31 (27 * x + s) 1 < 24 := ⟨((hC.1 s s0 s1).1 q2).1, ((hC.1 s s0 s1).1 q2).2.1⟩
      rw [pif_t q2, rd_stx (by omega), rd_take _ _ _ _ _ _ (by omega)]
    · rw [pif_f q2, rdx_lose _ _ _ _ _ _ (by omega) (by omega)]
  · rw [pif_f q]
    have e1 : rd (alertC a x (27 * x + s) s) k i j = rd a k i j := rdx_alert _ _ _ _ _ _ _ (by omega) (by omega)
    have hI1 : IA (alertC a x (27 * x + s) s) := IA_of hI (fun k i j hk => rd_alert _ _ _ _ _ _ _ (by omega) (by omega))
    generalize alertC a x (27 * x + s) s = a1 at e1 hI1 ⊢
    have e2 : rd (st2 a1 x s) k i j = rd a1 k i j := by
      unfold st2 resumeC
      by_cases c : rd a1 31 (27 * x + s) 0 = 0
      · rw [pif_t c]
        by_cases c2 : reB a1 x s = -1
        · rw [pif_t c2]
        · have hr := reB_range hI1 x s
          rw [pif_f c2, rd_take _ _ _ _ _ _ (by omega)]
      · rw [pif_f c]
    generalize st2 a1 x s = a2 at e2 ⊢
    have e3 : rd (st3 a2 x s) k i j = rd a2 k i j := by
      unfold st3
      by_cases c : rd a2 31 (27 * x + s) 0 = 0
      · rw [pif_t c]; exact rd_target _ _ _ _ _ _ _ (by omega)
      · rw [pif_f c]
    generalize st3 a2 x s = a3 at e3 ⊢
    have e4 : rd (st4 a3 x s) k i j = rd a3 k i j := by
      unfold st4
      by_cases c : rd a3 31 (27 * x + s) 0 = 0
      · rw [pif_t c, rd_stx (by omega)]
      · rw [pif_f c]; exact rdx_obsv _ _ _ _ _ _ _ h (by omega)
    rw [e4, e3, e2, e1]
theorem rdx_slot {a : Mm} {x : Int} (hI : IA a) (hC : IC a x) (k : Nat) (i j : Int) (h : oth x k i) : rd (slotC a x) k i j = rd a k i j := by
  have c0 := IC_site (i := 0) hI hC (by decide) (by decide)
  have c1 := IC_site (i := 0 + 1) (IA_site hI x 0) c0 (by decide) (by decide)
  have e : rd (sitesC a x) k i j = rd a k i j := by
    unfold sitesC
    rw [rdx_site (IA_site (IA_site hI _ _) _ _) c1 (by decide) (by decide) k i j h, rdx_site (IA_site hI _ _) c0 (by decide) (by decide) k i j h, rdx_site hI hC (by decide) (by decide) k i j h]
  unfold oth at h
  have et : rd (tick (sitesC a x) x) k i j = rd a k i j := by unfold tick; rw [rd_stx (by omega), e]
  unfold slotC
  by_cases q : jrem (rd (tick (sitesC a x) x) 26 x 8) 24 = 0
  · rw [pif_t q]
    unfold enC
    refine fori_keep (P := fun m9 => rd m9 k i j = rd a k i j) 0 24 (fun t m9 t0 t1 h9 => (rdx_lose _ _ _ _ _ _ (by omega) (by omega)).trans h9) 24 0 _ (by decide) (by decide) ?_
    rw [rdx_lose _ _ _ _ _ _ (by omega) (by omega), rdx_lose _ _ _ _ _ _ (by omega) (by omega), rdx_lose _ _ _ _ _ _ (by omega) (by omega), et]
  · rw [pif_f q, et]
theorem fori_out {F : Int → Mm → Mm} {k : Nat} {i j : Int} (lo hi : Int) : ∀ (n : Nat) (c : Int) (m : Mm), lo ≤ c → c + n ≤ hi → (∀ t m, lo ≤ t → t < hi → c ≤ t → t < c + n → rd (F t m) k i j = rd m k i j) → rd (fori F n c m) k i j = rd m k i j
  | 0, _, _, _, _, _ => rfl
  | n + 1, c, m, h0, h1, h => by
    show rd (fori F n (c + 1) (F c m)) k i j = _
    rw [fori_out lo hi n (c + 1) (F c m) (by omega) (by omega) (fun t m t0 t1 t2 t3 => h t m t0 t1 (by omega) (by omega))]
    exact h c m h0 (by omega) (by omega) (by omega)
theorem rd_cf4 (mm : Mm) (b b' : Int) (hb : b ≠ b') (k : Nat) (i j : Int) : rd (cf4 mm b b') k i j = if (k = 21 ∨ k = 22 ∨ k = 23 ∨ k = 25) ∧ i = b' then rd mm k b j else rd mm k i j := by
  unfold cf4
  simp only [rd_cpM]
  by_cases q : i = b'
  · subst q
    by_cases q1 : k = 21
    · subst q1; simp [hb]
    · by_cases q2 : k = 22
      · subst q2; simp [hb]
      · by_cases q3 : k = 23
        · subst q3; simp [hb]
        · by_cases q4 : k = 25
          · subst q4; simp [hb]
          · simp [q1, q2, q3, q4]
  · simp [q]
theorem cf_o (mm : Mm) (b b' : Int) (hb : b ≠ b') (k : Nat) (i j : Int) (h : i ≠ b' ∨ k < 21 ∨ 25 < k) : rd (cfC mm b b') k i j = rd mm k i j := by
  unfold cfC
  rw [fori_out 0 10 10 0 _ (by decide) (by decide) (fun t m _ _ _ _ => rd_stx (by omega)), rd_cf4 _ _ _ hb, if_neg (by omega)]
theorem res_o (a : Mm) (n : Int) (n0 : 0 ≤ n) (n1 : n < 30) (k : Nat) (i j : Int) (h : oth 1 k i) : rd (resC a 1 n n) k i j = rd a k i j := by
  unfold oth at h
  unfold resC rs1
  rw [rd_stx (by omega), rd_stx (by omega), rd_stx (by omega), cf_o _ _ _ (by omega) _ _ _ (by omega)]
