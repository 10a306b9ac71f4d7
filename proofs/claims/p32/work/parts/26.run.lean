/-! ===== run, replay, chances ===== -/
theorem rd_cpn (mm : Mm) (q : Nat) (b b' : Int) (k : Nat) (i j : Int) (h : k ≠ q) : rd (cpM mm q b b') k i j = rd mm k i j := by
  unfold rd cpM
  rw [if_neg (fun z => h z.1)]
theorem rd_cf (mm : Mm) (b b' : Int) (k : Nat) (i j : Int) (h : k < 21 ∨ 25 < k) : rd (cfC mm b b') k i j = rd mm k i j := by
  unfold cfC
  refine fori_keep (P := fun m => rd m k i j = rd mm k i j) 0 10 (fun t m _ _ h9 => (rd_st_ne (by omega)).trans h9) 10 0 _ (by decide) (by decide) ?_
  unfold cf4
  rw [rd_cpn _ _ _ _ _ _ _ (by omega), rd_cpn _ _ _ _ _ _ _ (by omega), rd_cpn _ _ _ _ _ _ _ (by omega), rd_cpn _ _ _ _ _ _ _ (by omega)]
theorem IA_cf {mm : Mm} (h : IA mm) (b b' : Int) : IA (cfC mm b b') := IA_of h (fun k a j hk => rd_cf _ _ _ _ _ _ (by omega))
theorem IC_cf {mm : Mm} {x : Int} (h : IC mm x) (b b' : Int) : IC (cfC mm b b') x := IC_same h (fun w j => rd_cf _ _ _ _ _ _ (by omega)) (fun t => rd_cf _ _ _ _ _ _ (by omega)) (by rw [rd_cf _ _ _ _ _ _ (by omega)]; exact h.2.2)
theorem slot_keep {mm : Mm} {x : Int} (hI : IA mm) (h : IC mm x) (w0 : 0 ≤ rd mm 26 x 8) (w1 : rd mm 26 x 8 < 720) : IA (slotC mm x) ∧ IC (slotC mm x) x ∧ rd (slotC mm x) 26 x 8 = rd mm 26 x 8 + 1 := by
  have I1 := IA_site hI x 0
  have C1 := IC_site hI h (by decide : (0 : Int) ≤ 0) (by decide)
  have I2 := IA_site I1 x (0 + 1)
  have C2 := IC_site I1 C1 (by decide : (0 : Int) ≤ 0 + 1) (by decide)
  have I3 := IA_site I2 x (0 + 1 + 1)
  have C3 := IC_site I2 C2 (by decide : (0 : Int) ≤ 0 + 1 + 1) (by decide)
  have a3 : rd (sitesC mm x) 26 x 8 = rd mm 26 x 8 := (rd_site _ _ _ _ _ _ lv268).trans ((rd_site _ _ _ _ _ _ lv268).trans (rd_site _ _ _ _ _ _ lv268))
  have hIt : IA (tick (sitesC mm x) x) := IA_of I3 (fun k a j hk => rd_st_ne (by omega))
  have hCt : IC (tick (sitesC mm x) x) x := IC_same C3 (fun w j => rd_st_ne (by decide)) (fun t => rd_st_ne (by decide)) (by unfold tick; rw [rd_st_ne (by decide)]; exact C3.2.2)
  have e9 : rd (tick (sitesC mm x) x) 26 x 8 = rd mm 26 x 8 + 1 := by
    unfold tick
    rw [rd_st, if_pos ⟨rfl, rfl, rfl⟩, wr_wr, a3, wr_of (by omega) (by omega)]
  unfold slotC
  by_cases q : jrem (rd (tick (sitesC mm x) x) 26 x 8) 24 = 0
  · rw [pif_t q]
    exact ⟨IA_of hIt (fun k a j hk => rd_en _ _ _ _ _ (by omega)), IC_en hCt, (rd_en _ _ _ _ _ (by decide)).trans e9⟩
  · rw [pif_f q]
    exact ⟨hIt, hCt, e9⟩
noncomputable def runB (mm : Mm) : Mm := pif (jrem (rd mm 26 0 8) 24 = 0) (cfC mm (30 + 0) (jdiv (rd mm 26 0 8) 24)) mm
noncomputable def runS (mm : Mm) : Mm := slotC (runB mm) 0
noncomputable def runM : Nat → Mm → Mm
  | 0, m => m
  | n + 1, m => pif (rd m 26 0 8 < 720) (runM n (runS m)) m
noncomputable def runI : Nat → Int → Mm → Int
  | 0, i, _ => i
  | n + 1, i, m => pif (rd m 26 0 8 < 720) (runI n (i + 1) (runS m)) i
set_option maxRecDepth 100000 in
set_option maxHeartbeats 400000 in
theorem M_run (mm : Mm) (o : Int64) (a : Int) (ha : wr a = a) (hI : IA mm) (hC9 : IC mm 0) (w0 : 0 ≤ rd mm 26 0 8) (w1 : rd mm 26 0 8 ≤ 720) : MetT iX10_run 1 [xr 1 0, xi a] mm o (tF (rgC a 1 48) (rto (xi (runI a.toNat 0 mm)) (runM a.toNat mm) o)) (tG (rgC a 1 48) mm o) := by
  refine MetT.of 1 (by decide +kernel) rfl (Nat.le_of_ble_eq_true rfl) ⟨by decide, by decide⟩ ?_
  intro p l e s m args below meth c V D ad hC hN hT hst hex hok hF
  refine wpt0 hC tkX10_run hF [] 200 ?_
  refine Wx.tcallS (x := iX10_run) (y := iX10_needRange) (j := 0) (k' := 1) (avs := [_, _, _]) (rest := []) hC hN hT hst hex tkX10_run rfl rfl rfl kX10_needRange rfl (M_needRange _ _ _ _ _ ha rfl rfl) rfl (Nat.le_of_ble_eq_true rfl) (by exact nol rfl) (by decide) ?_ ?_
  · rintro E mm' o' ⟨q, rfl, rfl⟩
    exact ⟨q, rfl, rfl⟩
  rintro r mm' o' ⟨c1, rfl, rfl, rfl⟩
  refine wpt (n := 1) hC tkX10_run hF (by decide) [9] 200 ?_
  obtain ⟨a0, a1⟩ := rg_of c1
  have loop : ∀ (n : Nat) (i : Int) (m9 : Mm), 0 ≤ i → i + n = a → IA m9 → IC m9 0 → 0 ≤ rd m9 26 0 8 → rd m9 26 0 8 ≤ 720 → runI n i m9 = runI a.toNat 0 mm → runM n m9 = runM a.toNat mm → Wx p l e (mrmT iX10_run 1) s m args below meth c 1 (6 * 1) (TQ below V D ad (tF (rgC a 1 48) (rto (xi (runI a.toNat 0 mm)) (runM a.toNat mm) o)) (tG (rgC a 1 48) mm o) args s 1) V D ad (wA V ad s.heap.size) 3 9 [(0, xr 1 0), (1, xi a), (2, xi i)] [] m9 o := by
    intro n
    induction n with
    | zero =>
      intro i m9 i0 hi hI9 hC8 v0 v1 e1 e2
      refine wpt (n := 1) hC tkX10_run hF (by decide) [9] 200 ?_
      refine ⟨fun q => ⟨(c1), congrArg (fun z => some (xi z)) e1, e2.symm, rfl⟩, fun q => ?_⟩
      rw [ha, wr_of (by omega) (by omega)] at q; omega
    | succ n ih =>
      intro i m9 i0 hi hI9 hC8 v0 v1 e1 e2
      have join : ∀ m8, m8 = runB m9 → rd m9 26 0 8 < 720 → Wx p l e (mrmT iX10_run 1) s m args below meth c 1 (6 * 1) (TQ below V D ad (tF (rgC a 1 48) (rto (xi (runI a.toNat 0 mm)) (runM a.toNat mm) o)) (tG (rgC a 1 48) mm o) args s 1) V D ad (wA V ad s.heap.size) 3 65 [(0, xr 1 0), (1, xi a), (2, xi i)] [] m8 o := by
        intro m8 e8 hlt
        have hI8 : IA m8 := by
          rw [e8]; unfold runB
          by_cases q : jrem (rd m9 26 0 8) 24 = 0
          · rw [pif_t q]; exact IA_cf hI9 _ _
          · rw [pif_f q]; exact hI9
        have hC7 : IC m8 0 := by
          rw [e8]; unfold runB
          by_cases q : jrem (rd m9 26 0 8) 24 = 0
          · rw [pif_t q]; exact IC_cf hC8 _ _
          · rw [pif_f q]; exact hC8
        have hn8 : rd m8 26 0 8 = rd m9 26 0 8 := by
          rw [e8]; unfold runB
          by_cases q : jrem (rd m9 26 0 8) 24 = 0
          · rw [pif_t q]; exact rd_cf _ _ _ _ _ _ (by decide)
          · rw [pif_f q]
        obtain ⟨k1, k2, k3⟩ := slot_keep hI8 hC7 (by omega) (by omega)
        refine wpt (n := 1) hC tkX10_run hF (by decide) [9] 200 ?_
        refine Wx.gcallV (y := iX4_runSlot) (k := 26) (avs := []) (rest := []) hC hN ⟨by decide, by decide⟩ tkX10_run rfl rfl kX4_runSlot ⟨by decide, by decide⟩ (M_runSlot _ _ _ hI8 hC7 (by omega) (by omega)) ⟨rfl, rfl⟩ rfl (Nat.le_of_ble_eq_true rfl) (by exact nol rfl) ?_
        rintro r mm' o' ⟨rfl, rfl, rfl⟩
        refine wpt (n := 1) hC tkX10_run hF (by decide) [9] 200 ?_
        refine ih (i + 1) _ (by omega) (by omega) k1 k2 (by omega) (by omega) ?_ ?_
        · rw [← e1, e8]; exact (pif_t hlt).symm
        · rw [← e2, e8]; exact (pif_t hlt).symm
      refine wpt (n := 1) hC tkX10_run hF (by decide) [9, 65] 200 ?_
      refine ⟨fun q => ?_, fun q => ⟨fun q2 => ?_, fun q2 => ?_⟩⟩
      · rw [ha, wr_of (by omega) (by omega)] at q; omega
      · rw [wr_rd, show wr 720 = 720 from rfl] at q2
        refine ⟨(c1), ?_, ?_, rfl⟩
        · rw [← e1]; exact congrArg (fun z => some (xi z)) (pif_f (by omega)).symm
        · rw [← e2]; exact pif_f (p := rd m9 26 0 8 < 720) (by omega)
      · rw [wr_rd, show wr 720 = 720 from rfl] at q2
        have hj : wr (jrem (rd m9 26 0 8) 24) = jrem (rd m9 26 0 8) 24 := by rw [jrem_of (by omega) (by omega) (by decide) (by decide), wr_of (by omega) (by omega)]
        have hd : jdiv (rd m9 26 0 8) 24 = rd m9 26 0 8 / 24 := jdiv_of (by omega) (by omega) (by decide) (by decide)
        refine ⟨by decide, fun q3 => ?_, fun q3 => ?_⟩
        · rw [hj] at q3
          exact join _ (pif_f q3).symm (by omega)
        · rw [hj] at q3
          refine ⟨by decide, ⟨by rw [hd]; omega, by rw [hd]; show _ < (30 : Int); omega⟩, ?_⟩
          refine Wx.gcallV (y := iX3_copyFrom) (k := 20) (avs := [_]) (rest := []) hC hN ⟨by decide, by decide⟩ tkX10_run rfl rfl kX3_copyFrom ⟨by decide, by decide⟩ (M_copyFrom _ _ _ _) ⟨rfl, rfl⟩ rfl (Nat.le_of_ble_eq_true rfl) (by exact nol rfl) ?_
          rintro r mm' o' ⟨rfl, rfl, rfl⟩
          exact join _ (pif_t q3).symm (by omega)
  exact loop a.toNat 0 mm (by decide) (by omega) hI hC9 w0 w1 rfl rfl
noncomputable def slotN (x : Int) : Nat → Mm → Mm
  | 0, m => m
  | n + 1, m => slotN x n (slotC m x)
noncomputable def repM (mm : Mm) (a : Int) : Mm := slotN 1 24 (resC mm 1 a a)
theorem rd_res (mm : Mm) (x n b : Int) (k : Nat) (i j : Int) (h : k < 21) : rd (resC mm x n b) k i j = rd mm k i j := by
  unfold resC rs1
  rw [rd_st_ne (by omega), rd_st_ne (by omega), rd_st_ne (by omega), rd_cf _ _ _ _ _ _ (by omega)]
theorem rd_res31 (mm : Mm) (x n b : Int) (i j : Int) : rd (resC mm x n b) 31 i j = rd mm 31 i j := by
  unfold resC rs1
  rw [rd_st_ne (by omega), rd_st_ne (by omega), rd_st_ne (by omega), rd_cf _ _ _ _ _ _ (by omega)]
theorem rd_res8 (mm : Mm) (x n b : Int) (n0 : 0 ≤ n) (n1 : n < 30) : rd (resC mm x n b) 26 x 8 = n * 24 := by
  unfold resC rs1
  rw [rd_st, if_neg (by omega), rd_st, if_pos ⟨rfl, rfl, rfl⟩, wr_wr, wr_of (by omega) (by omega)]
theorem rd_res27 (mm : Mm) (x n b : Int) : rd (resC mm x n b) 27 x 1 = 0 := by
  unfold resC rs1
  rw [rd_st_ne (by omega), rd_st_ne (by omega), rd_st, if_pos ⟨rfl, rfl, rfl⟩]
  rfl
set_option maxRecDepth 100000 in
set_option maxHeartbeats 400000 in
theorem M_replay (mm : Mm) (o : Int64) (a : Int) (ha : wr a = a) (hI : IA mm) (hC9 : IC mm 1) : MetT iX10_replay 2 [xr 1 0, xi a] mm o (tF (ck (ixC a 30) (stC (bz (a * 24 < rd mm 26 0 8)))) (rto (xi (rd (repM mm a) 26 1 9)) (repM mm a) o)) (tG (ck (ixC a 30) (stC (bz (a * 24 < rd mm 26 0 8)))) mm o) := by
  refine MetT.of 1 (by decide +kernel) rfl (Nat.le_of_ble_eq_true rfl) ⟨by decide, by decide⟩ ?_
  intro p l e s m args below meth c V D ad hC hN hT hst hex hok hF
  refine wpt0 hC tkX10_replay hF [] 200 ?_
  refine Wx.tcallS (x := iX10_replay) (y := iX10_needIndex) (j := 0) (k' := 1) (avs := [_, _]) (rest := []) hC hN hT hst hex tkX10_replay rfl rfl rfl kX10_needIndex rfl (M_needIndex _ _ _ _ ha rfl) rfl (Nat.le_of_ble_eq_true rfl) (by exact nol rfl) (by decide) ?_ ?_
  · rintro E mm' o' ⟨q, rfl, rfl⟩
    exact ⟨ck_l q, rfl, rfl⟩
  rintro r mm' o' ⟨c1, rfl, rfl, rfl⟩
  refine wpt (n := 1) hC tkX10_replay hF (by decide) [44] 200 ?_
  obtain ⟨a0, a1⟩ := ix_of c1
  refine ⟨fun q => ?_, fun q => ?_⟩
  · refine Wx.tcallS (x := iX10_replay) (y := iX10_needState) (j := 1) (k' := 1) (avs := [_]) (rest := []) hC hN hT hst hex tkX10_replay rfl rfl rfl kX10_needState rfl (M_needState _ _ 0 rfl) rfl (Nat.le_of_ble_eq_true rfl) (by exact nol rfl) (by decide) ?_ ?_
    · rintro E mm' o' ⟨q2, rfl, rfl⟩
      exact ⟨ck_r c1 ((congrArg stC (bz_f (by rw [wr_rd, wr_of (by omega) (by omega)] at q; omega))).trans q2), rfl, rfl⟩
    · rintro r mm' o' ⟨q2, -⟩
      exact absurd q2 (by decide)
  refine Wx.tcallS (x := iX10_replay) (y := iX10_needState) (j := 1) (k' := 1) (avs := [_]) (rest := []) hC hN hT hst hex tkX10_replay rfl rfl rfl kX10_needState rfl (M_needState _ _ 1 rfl) rfl (Nat.le_of_ble_eq_true rfl) (by exact nol rfl) (by decide) ?_ ?_
  · rintro E mm' o' ⟨q2, -⟩
    exact nomatch (q2.symm.trans (by decide : stC 1 = none))
  rintro r mm' o' ⟨-, rfl, rfl, rfl⟩
  have hp : a * 24 < rd mm 26 0 8 := by rw [wr_rd, wr_of (by omega) (by omega)] at q; omega
  have c2 : stC (bz (a * 24 < rd mm 26 0 8)) = none := (congrArg stC (bz_t hp)).trans rfl
  refine wpt (n := 2) hC tkX10_replay hF (by decide) [44] 200 ?_
  have loop : ∀ (n : Nat) (i : Int) (m9 : Mm), 0 ≤ i → i + n = 24 → IA m9 → IC m9 1 → rd m9 26 1 8 = a * 24 + i → slotN 1 n m9 = repM mm a → Wx p l e (mrmT iX10_replay 2) s m args below meth c 2 (6 * 2) (TQ below V D ad (tF (ck (ixC a 30) (stC (bz (a * 24 < rd mm 26 0 8)))) (rto (xi (rd (repM mm a) 26 1 9)) (repM mm a) o)) (tG (ck (ixC a 30) (stC (bz (a * 24 < rd mm 26 0 8)))) mm o) args s 2) V D ad (wA V ad s.heap.size) 3 44 [(0, xr 1 0), (1, xi a), (2, xi i)] [] m9 o := by
    intro n
    induction n with
    | zero =>
      intro i m9 i0 hi hI9 hC8 v0 e1
      refine wpt (n := 2) hC tkX10_replay hF (by decide) [44] 200 ?_
      refine ⟨fun q => ⟨(ck_r c1 (c2)), congrArg (fun z => some (xi (rd z 26 1 9))) e1, e1.symm, rfl⟩, fun q => ?_⟩
      rw [show wr 24 = 24 from rfl, wr_of (by omega) (by omega)] at q; omega
    | succ n ih =>
      intro i m9 i0 hi hI9 hC8 v0 e1
      obtain ⟨k1, k2, k3⟩ := slot_keep hI9 hC8 (by omega) (by omega)
      refine wpt (n := 2) hC tkX10_replay hF (by decide) [44] 200 ?_
      refine ⟨fun q => ?_, fun q => ?_⟩
      · rw [show wr 24 = 24 from rfl, wr_of (by omega) (by omega)] at q; omega
      refine Wx.gcallV (y := iX4_runSlot) (k := 26) (avs := []) (rest := []) hC hN ⟨by decide, by decide⟩ tkX10_replay rfl rfl kX4_runSlot ⟨by decide, by decide⟩ (M_runSlot _ _ _ hI9 hC8 (by omega) (by omega)) ⟨rfl, rfl⟩ rfl (Nat.le_of_ble_eq_true rfl) (by exact nol rfl) ?_
      rintro r mm' o' ⟨rfl, rfl, rfl⟩
      refine wpt (n := 2) hC tkX10_replay hF (by decide) [44] 200 ?_
      exact ih (i + 1) _ (by omega) (by omega) k1 k2 (by omega) e1
  refine ⟨⟨a0, a1⟩, ?_⟩
  refine Wx.gcallV (y := iX4_restart) (k := 26) (avs := [_, _]) (rest := []) hC hN ⟨by decide, by decide⟩ tkX10_replay rfl rfl kX4_restart ⟨by decide, by decide⟩ (M_restart _ _ _ _ _) ⟨rfl, rfl⟩ rfl (Nat.le_of_ble_eq_true rfl) (by exact nol rfl) ?_
  rintro r mm' o' ⟨rfl, rfl, rfl⟩
  refine wpt (n := 2) hC tkX10_replay hF (by decide) [44] 200 ?_
  refine loop 24 0 _ (by decide) (by decide) (IA_of hI (fun k i j hk => rd_res _ _ _ _ _ _ _ (by omega))) (IC_same hC9 (fun w j => rd_res31 _ _ _ _ _ _) (fun t => rd_res _ _ _ _ _ _ _ (by decide)) (by rw [rd_res27]; decide)) (by rw [rd_res8 _ _ _ _ a0 a1]; omega) rfl
