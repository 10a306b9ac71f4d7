/-! ===== the calls of the class, last: reads ===== -/
def crdN (mm : Mm) (b c : Int) : Int := c - jdiv (rd mm 28 0 (b * 7 + 3)) 24
def crdT (mm : Mm) (b : Int) : Int := rd mm 28 0 (b * 7 + 1)
def crdP (mm : Mm) (a b c : Int) : Prop := 0 ≤ wr (crdN mm b c) ∧ (rd mm 28 0 (b * 7) = 2 ∨ a = rd mm 18 (crdT mm b) 0 ∨ rd mm 17 (rd mm 18 (crdT mm b) 10) 3 < wr (crdN mm b c))
set_option maxRecDepth 100000 in
set_option maxHeartbeats 400000 in
theorem M_reads (mm : Mm) (o : Int64) (a b c9 : Int) (ha : wr a = a) (hb : wr b = b) (hc : wr c9 = c9) (hI : IA mm) (n1 : rd mm 27 0 1 ≤ 100) (hP : ∀ b, 0 ≤ b → b < rd mm 27 0 1 → ¬ rd mm 28 0 (b * 7) = 2 → 0 ≤ rd mm 28 0 (b * 7 + 1) ∧ rd mm 28 0 (b * 7 + 1) < 24) : MetT iX10_reads 3 [xr 1 0, xi a, xi b, xi c9] mm o (tF (ck (ixC a 4) (ck (ixC b (rd mm 27 0 1)) (ixC c9 30))) (rto (xi (bz (crdP mm a b c9))) mm o)) (tG (ck (ixC a 4) (ck (ixC b (rd mm 27 0 1)) (ixC c9 30))) mm o) := by
  refine MetT.of 2 (by decide +kernel) rfl (Nat.le_of_ble_eq_true rfl) ⟨by decide, by decide⟩ ?_
  intro p l e s m args below meth c V D ad hC hN hT hst hex hok hF
  have no : ¬ crdP mm a b c9 → some (xi 0) = some (xi (bz (crdP mm a b c9))) := fun h => congrArg (fun z => some (xi z)) (bz_f h).symm
  have yes : crdP mm a b c9 → some (xi 1) = some (xi (bz (crdP mm a b c9))) := fun h => congrArg (fun z => some (xi z)) (bz_t h).symm
  refine wpt0 hC tkX10_reads hF [] 200 ?_
  refine Wx.tcallS (x := iX10_reads) (y := iX10_needIndex) (j := 0) (k' := 1) (avs := [_, _]) (rest := []) hC hN hT hst hex tkX10_reads rfl rfl rfl kX10_needIndex rfl (M_needIndex _ _ _ _ ha rfl) rfl (Nat.le_of_ble_eq_true rfl) (by exact nol rfl) (by decide) ?_ ?_
  · rintro E mm' o' ⟨q, rfl, rfl⟩
    exact ⟨ck_l q, rfl, rfl⟩
  rintro r mm' o' ⟨c1, rfl, rfl, rfl⟩
  refine wpt (n := 1) hC tkX10_reads hF (by decide) [] 200 ?_
  refine Wx.tcallS (x := iX10_reads) (y := iX10_needIndex) (j := 1) (k' := 1) (avs := [_, _]) (rest := []) hC hN hT hst hex tkX10_reads rfl rfl rfl kX10_needIndex rfl (M_needIndex _ _ _ _ hb (wr_rd _ _ _ _)) rfl (Nat.le_of_ble_eq_true rfl) (by exact nol rfl) (by decide) ?_ ?_
  · rintro E mm' o' ⟨q, rfl, rfl⟩
    exact ⟨ck_r c1 (ck_l q), rfl, rfl⟩
  rintro r mm' o' ⟨c2, rfl, rfl, rfl⟩
  refine wpt (n := 2) hC tkX10_reads hF (by decide) [] 200 ?_
  refine Wx.tcallS (x := iX10_reads) (y := iX10_needIndex) (j := 2) (k' := 1) (avs := [_, _]) (rest := []) hC hN hT hst hex tkX10_reads rfl rfl rfl kX10_needIndex rfl (M_needIndex _ _ _ _ hc rfl) rfl (Nat.le_of_ble_eq_true rfl) (by exact nol rfl) (by decide) ?_ ?_
  · rintro E mm' o' ⟨q, rfl, rfl⟩
    exact ⟨ck_r c1 (ck_r c2 (q)), rfl, rfl⟩
  rintro r mm' o' ⟨c3, rfl, rfl, rfl⟩
  refine wpt (n := 3) hC tkX10_reads hF (by decide) [] 200 ?_
  obtain ⟨b0, b1⟩ := ix_of c2
  have r0 : 0 ≤ b * 7 ∧ b * 7 < 700 := by omega
  have r1 : 0 ≤ b * 7 + 1 ∧ b * 7 + 1 < 700 := by omega
  have r3 : 0 ≤ b * 7 + 3 ∧ b * 7 + 3 < 700 := by omega
  refine ⟨r3, by decide, fun q => ⟨r0, fun q2 => ?_, fun q2 => ⟨Or.inr rfl, (ck_r c1 (ck_r c2 (c3))), yes ⟨q, Or.inl ?_⟩, rfl, rfl⟩⟩, fun q => ⟨Or.inl rfl, (ck_r c1 (ck_r c2 (c3))), no (fun h => q h.1), rfl, rfl⟩⟩
  · rw [wr_rd, show wr 2 = 2 from rfl] at q2
    have t2 := hP b b0 b1 q2
    obtain ⟨-, -, -, -, p2⟩ := hI.1 _ t2.1 t2.2
    refine ⟨r1, t2, fun q3 => ⟨Or.inr rfl, (ck_r c1 (ck_r c2 (c3))), yes ⟨q, Or.inr (Or.inl ?_)⟩, rfl, rfl⟩, fun q3 => ⟨p2, fun q4 => ⟨Or.inl rfl, (ck_r c1 (ck_r c2 (c3))), no (fun h => ?_), rfl, rfl⟩, fun q4 => ⟨Or.inr rfl, (ck_r c1 (ck_r c2 (c3))), yes ⟨q, Or.inr (Or.inr ?_)⟩, rfl, rfl⟩⟩⟩
    · rw [ha, wr_rd] at q3; exact q3
    · rw [ha, wr_rd] at q3
      replace q4 : wr (crdN mm b c9) ≤ wr (rd mm 17 (rd mm 18 (crdT mm b) 10) 3) := q4
      rw [wr_rd] at q4
      rcases h.2 with h2 | h2 | h2
      · exact q2 h2
      · exact q3 h2
      · omega
    · replace q4 : ¬ wr (crdN mm b c9) ≤ wr (rd mm 17 (rd mm 18 (crdT mm b) 10) 3) := q4
      rw [wr_rd] at q4; omega
  · rw [wr_rd, show wr 2 = 2 from rfl] at q2; exact q2
