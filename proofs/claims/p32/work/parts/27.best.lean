/-! ===== chances, bestOrder ===== -/
noncomputable def chanC (mm : Mm) (a b c9 : Int) : Int := cntT (fun v => suitC mm 18 a b (c9 * 24 + v) (rd mm 18 a 3)) 24 0 0
set_option maxRecDepth 100000 in
set_option maxHeartbeats 400000 in
theorem M_chances (mm : Mm) (o : Int64) (a b c9 : Int) (ha : wr a = a) (hb : wr b = b) (hc : wr c9 = c9) (hI : IA mm) : MetT iX10_chances 3 [xr 1 0, xi a, xi b, xi c9] mm o (tF (ck (ixC a (rd mm 5 0 7)) (ck (ixC b 3) (ixC c9 30))) (rto (xi (chanC mm a b c9)) mm o)) (tG (ck (ixC a (rd mm 5 0 7)) (ck (ixC b 3) (ixC c9 30))) mm o) := by
  refine MetT.of 1 (by decide +kernel) rfl (Nat.le_of_ble_eq_true rfl) ⟨by decide, by decide⟩ ?_
  intro p l e s m args below meth c V D ad hC hN hT hst hex hok hF
  have hn1 := hI.2.2.2.2.1.2
  refine wpt0 hC tkX10_chances hF [] 200 ?_
  refine Wx.tcallS (x := iX10_chances) (y := iX10_needIndex) (j := 0) (k' := 1) (avs := [_, _]) (rest := []) hC hN hT hst hex tkX10_chances rfl rfl rfl kX10_needIndex rfl (M_needIndex _ _ _ _ ha (wr_rd _ _ _ _)) rfl (Nat.le_of_ble_eq_true rfl) (by exact nol rfl) (by decide) ?_ ?_
  · rintro E mm' o' ⟨q, rfl, rfl⟩
    exact ⟨ck_l q, rfl, rfl⟩
  rintro r mm' o' ⟨c1, rfl, rfl, rfl⟩
  refine wpt (n := 1) hC tkX10_chances hF (by decide) [] 200 ?_
  refine Wx.tcallS (x := iX10_chances) (y := iX10_needIndex) (j := 1) (k' := 1) (avs := [_, _]) (rest := []) hC hN hT hst hex tkX10_chances rfl rfl rfl kX10_needIndex rfl (M_needIndex _ _ _ _ hb rfl) rfl (Nat.le_of_ble_eq_true rfl) (by exact nol rfl) (by decide) ?_ ?_
  · rintro E mm' o' ⟨q, rfl, rfl⟩
    exact ⟨ck_r c1 (ck_l q), rfl, rfl⟩
  rintro r mm' o' ⟨c2, rfl, rfl, rfl⟩
  refine wpt (n := 2) hC tkX10_chances hF (by decide) [] 200 ?_
  refine Wx.tcallS (x := iX10_chances) (y := iX10_needIndex) (j := 2) (k' := 1) (avs := [_, _]) (rest := []) hC hN hT hst hex tkX10_chances rfl rfl rfl kX10_needIndex rfl (M_needIndex _ _ _ _ hc rfl) rfl (Nat.le_of_ble_eq_true rfl) (by exact nol rfl) (by decide) ?_ ?_
  · rintro E mm' o' ⟨q, rfl, rfl⟩
    exact ⟨ck_r c1 (ck_r c2 (q)), rfl, rfl⟩
  rintro r mm' o' ⟨c3, rfl, rfl, rfl⟩
  refine wpt (n := 3) hC tkX10_chances hF (by decide) [39] 200 ?_
  obtain ⟨a0, a1⟩ := ix_of c1
  obtain ⟨b0, b1⟩ := ix_of c2
  obtain ⟨f0, f1⟩ := ix_of c3
  have a2 : 0 ≤ a ∧ a < 24 := by omega
  obtain ⟨-, ⟨l0, l1⟩, ⟨i0, i1⟩, -, -⟩ := hI.1 a a2.1 a2.2
  have loop : ∀ (n : Nat) (j z : Int), 0 ≤ j → j + n = 24 → cntT (fun v => suitC mm 18 a b (c9 * 24 + v) (rd mm 18 a 3)) n j z = chanC mm a b c9 → Wx p l e (mrmT iX10_chances 3) s m args below meth c 3 (6 * 3) (TQ below V D ad (tF (ck (ixC a (rd mm 5 0 7)) (ck (ixC b 3) (ixC c9 30))) (rto (xi (chanC mm a b c9)) mm o)) (tG (ck (ixC a (rd mm 5 0 7)) (ck (ixC b 3) (ixC c9 30))) mm o) args s 3) V D ad (wA V ad s.heap.size) 7 39 [(0, xr 1 0), (1, xi a), (2, xi b), (3, xi c9), (4, xr 18 a), (5, xi z), (6, xi j)] [] mm o := by
    intro n
    induction n with
    | zero =>
      intro j z j0 hj he
      refine wpt (n := 3) hC tkX10_chances hF (by decide) [39] 200 ?_
      refine ⟨fun q => ⟨(ck_r c1 (ck_r c2 (c3))), congrArg (fun z => some (xi z)) he, rfl, rfl⟩, fun q => ?_⟩
      rw [show wr 24 = 24 from rfl, wr_of (by omega) (by omega)] at q; omega
    | succ n ih =>
      intro j z j0 hj he
      refine wpt (n := 3) hC tkX10_chances hF (by decide) [39] 200 ?_
      refine ⟨fun q => ?_, fun q => ⟨⟨b0, b1⟩, ?_⟩⟩
      · rw [show wr 24 = 24 from rfl, wr_of (by omega) (by omega)] at q; omega
      refine Wx.gcallV (y := iX5_suits) (k := 5) (avs := [_, _, _, _]) (rest := []) hC hN ⟨by decide, by decide⟩ tkX10_chances rfl rfl kX5_suits ⟨by decide, by decide⟩ (M_suits_18 a b (c9 * 24 + j) (rd mm 18 a 3) _ _ (by omega) (by omega) l0 (by omega) i0 i1) ⟨rfl, rfl⟩ rfl (Nat.le_of_ble_eq_true rfl) (by exact nol rfl) ?_
      rintro r mm' o' ⟨rfl, rfl, rfl⟩
      refine wpt (n := 3) hC tkX10_chances hF (by decide) [39] 200 ?_
      refine ⟨fun q2 => ?_, fun q2 => ?_⟩
      · rw [wr_bz, bz_0] at q2
        exact ih (j + 1) _ (by omega) (by omega) (by rw [← he]; exact congrArg (cntT _ n (j + 1)) (pif_f q2).symm)
      · rw [wr_bz, bz_0] at q2
        exact ih (j + 1) _ (by omega) (by omega) (by rw [← he]; exact congrArg (cntT _ n (j + 1)) (pif_t (Classical.not_not.mp q2)).symm)
  exact ⟨a2, loop 24 0 0 (by decide) (by decide) rfl⟩
