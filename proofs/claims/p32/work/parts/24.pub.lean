/-! ===== the calls of the class, II ===== -/
def wthC (mm : Mm) (a b c9 d e9 : Int) : Mm := fori (fun j m => st m 12 a (b * 24 + j) (wr e9)) (d - c9 + 1).toNat c9 mm
set_option maxRecDepth 100000 in
set_option maxHeartbeats 400000 in
theorem M_weather (mm : Mm) (o : Int64) (a b c9 d9 e9 : Int) (ha : wr a = a) (hb : wr b = b) (hc : wr c9 = c9) (hd : wr d9 = d9) (he : wr e9 = e9) : MetT iX10_weather 6 [xr 1 0, xi a, xi b, xi c9, xi d9, xi e9] mm o (tF (ck (slC a b c9 d9) (ck (orC c9 d9) (rgC e9 0 50))) (rtv (wthC mm a b c9 d9 e9) o)) (tG (ck (slC a b c9 d9) (ck (orC c9 d9) (rgC e9 0 50))) mm o) := by
  refine MetT.of 0 (by decide +kernel) rfl (Nat.le_of_ble_eq_true rfl) ⟨by decide, by decide⟩ ?_
  intro p l e s m args below meth c V D ad hC hN hT hst hex hok hF
  refine wpt0 hC tkX10_weather hF [] 200 ?_
  refine Wx.tcallS (x := iX10_weather) (y := iX10_needSlots) (j := 0) (k' := 4) (avs := [_, _, _, _]) (rest := []) hC hN hT hst hex tkX10_weather rfl rfl rfl kX10_needSlots rfl (M_needSlots _ _ _ _ _ _ ha hb hc hd) rfl (Nat.le_of_ble_eq_true rfl) (by exact nol rfl) (by decide) ?_ ?_
  · rintro E mm' o' ⟨q, rfl, rfl⟩
    exact ⟨ck_l q, rfl, rfl⟩
  rintro r mm' o' ⟨c1, rfl, rfl, rfl⟩
  refine wpt (n := 4) hC tkX10_weather hF (by decide) [] 200 ?_
  refine Wx.tcallS (x := iX10_weather) (y := iX10_needOrder) (j := 4) (k' := 1) (avs := [_, _]) (rest := []) hC hN hT hst hex tkX10_weather rfl rfl rfl kX10_needOrder rfl (M_needOrder _ _ _ _ hc hd) rfl (Nat.le_of_ble_eq_true rfl) (by exact nol rfl) (by decide) ?_ ?_
  · rintro E mm' o' ⟨q, rfl, rfl⟩
    exact ⟨ck_r c1 (ck_l q), rfl, rfl⟩
  rintro r mm' o' ⟨c2, rfl, rfl, rfl⟩
  refine wpt (n := 5) hC tkX10_weather hF (by decide) [] 200 ?_
  refine Wx.tcallS (x := iX10_weather) (y := iX10_needRange) (j := 5) (k' := 1) (avs := [_, _, _]) (rest := []) hC hN hT hst hex tkX10_weather rfl rfl rfl kX10_needRange rfl (M_needRange _ _ _ _ _ he rfl rfl) rfl (Nat.le_of_ble_eq_true rfl) (by exact nol rfl) (by decide) ?_ ?_
  · rintro E mm' o' ⟨q, rfl, rfl⟩
    exact ⟨ck_r c1 (ck_r c2 (q)), rfl, rfl⟩
  rintro r mm' o' ⟨c3, rfl, rfl, rfl⟩
  refine wpt (n := 6) hC tkX10_weather hF (by decide) [39] 200 ?_
  obtain ⟨⟨a0, a1⟩, ⟨b0, b1⟩, ⟨f0, f1⟩, ⟨d0, d1⟩⟩ := sl_of c1
  have hcd := or_of c2
  have loop : ∀ (n : Nat) (j : Int) (m9 : Mm), 0 ≤ j → j + n = d9 + 1 → fori (fun j m => st m 12 a (b * 24 + j) (wr e9)) n j m9 = wthC mm a b c9 d9 e9 → Wx p l e (mrmT iX10_weather 6) s m args below meth c 6 (6 * 6) (TQ below V D ad (tF (ck (slC a b c9 d9) (ck (orC c9 d9) (rgC e9 0 50))) (rtv (wthC mm a b c9 d9 e9) o)) (tG (ck (slC a b c9 d9) (ck (orC c9 d9) (rgC e9 0 50))) mm o) args s 6) V D ad (wA V ad s.heap.size) 8 39 [(0, xr 1 0), (1, xi a), (2, xi b), (3, xi c9), (4, xi d9), (5, xi e9), (6, xr 12 a), (7, xi j)] [] m9 o := by
    intro n
    induction n with
    | zero =>
      intro j m9 j0 hj he9
      refine wpt (n := 6) hC tkX10_weather hF (by decide) [39] 200 ?_
      refine ⟨fun q => ⟨(ck_r c1 (ck_r c2 (c3))), rfl, he9.symm, rfl⟩, fun q => ?_⟩
      rw [hd, wr_of (by omega) (by omega)] at q; omega
    | succ n ih =>
      intro j m9 j0 hj he9
      refine wpt (n := 6) hC tkX10_weather hF (by decide) [39] 200 ?_
      refine ⟨fun q => ?_, fun q => ⟨⟨by show 0 ≤ b * 24 + j; omega, by show b * 24 + j < 720; omega⟩, ?_⟩⟩
      · rw [hd, wr_of (by omega) (by omega)] at q; omega
      exact ih (j + 1) _ (by omega) (by omega) he9
  exact ⟨⟨a0, a1⟩, loop (d9 - c9 + 1).toNat c9 _ f0 (by omega) rfl⟩
def fltC (mm : Mm) (a b c9 d : Int) : Mm := fori (fun j m => st m 13 a (b * 24 + j) (wr 1 % 2)) (d - c9 + 1).toNat c9 mm
set_option maxRecDepth 100000 in
set_option maxHeartbeats 400000 in
theorem M_fault (mm : Mm) (o : Int64) (a b c9 d9 : Int) (ha : wr a = a) (hb : wr b = b) (hc : wr c9 = c9) (hd : wr d9 = d9) : MetT iX10_fault 5 [xr 1 0, xi a, xi b, xi c9, xi d9] mm o (tF (ck (slC a b c9 d9) (orC c9 d9)) (rtv (fltC mm a b c9 d9) o)) (tG (ck (slC a b c9 d9) (orC c9 d9)) mm o) := by
  refine MetT.of 0 (by decide +kernel) rfl (Nat.le_of_ble_eq_true rfl) ⟨by decide, by decide⟩ ?_
  intro p l e s m args below meth c V D ad hC hN hT hst hex hok hF
  refine wpt0 hC tkX10_fault hF [] 200 ?_
  refine Wx.tcallS (x := iX10_fault) (y := iX10_needSlots) (j := 0) (k' := 4) (avs := [_, _, _, _]) (rest := []) hC hN hT hst hex tkX10_fault rfl rfl rfl kX10_needSlots rfl (M_needSlots _ _ _ _ _ _ ha hb hc hd) rfl (Nat.le_of_ble_eq_true rfl) (by exact nol rfl) (by decide) ?_ ?_
  · rintro E mm' o' ⟨q, rfl, rfl⟩
    exact ⟨ck_l q, rfl, rfl⟩
  rintro r mm' o' ⟨c1, rfl, rfl, rfl⟩
  refine wpt (n := 4) hC tkX10_fault hF (by decide) [] 200 ?_
  refine Wx.tcallS (x := iX10_fault) (y := iX10_needOrder) (j := 4) (k' := 1) (avs := [_, _]) (rest := []) hC hN hT hst hex tkX10_fault rfl rfl rfl kX10_needOrder rfl (M_needOrder _ _ _ _ hc hd) rfl (Nat.le_of_ble_eq_true rfl) (by exact nol rfl) (by decide) ?_ ?_
  · rintro E mm' o' ⟨q, rfl, rfl⟩
    exact ⟨ck_r c1 (q), rfl, rfl⟩
  rintro r mm' o' ⟨c2, rfl, rfl, rfl⟩
  refine wpt (n := 5) hC tkX10_fault hF (by decide) [31] 200 ?_
  obtain ⟨⟨a0, a1⟩, ⟨b0, b1⟩, ⟨f0, f1⟩, ⟨d0, d1⟩⟩ := sl_of c1
  have hcd := or_of c2
  have loop : ∀ (n : Nat) (j : Int) (m9 : Mm), 0 ≤ j → j + n = d9 + 1 → fori (fun j m => st m 13 a (b * 24 + j) (wr 1 % 2)) n j m9 = fltC mm a b c9 d9 → Wx p l e (mrmT iX10_fault 5) s m args below meth c 5 (6 * 5) (TQ below V D ad (tF (ck (slC a b c9 d9) (orC c9 d9)) (rtv (fltC mm a b c9 d9) o)) (tG (ck (slC a b c9 d9) (orC c9 d9)) mm o) args s 5) V D ad (wA V ad s.heap.size) 7 31 [(0, xr 1 0), (1, xi a), (2, xi b), (3, xi c9), (4, xi d9), (5, xr 13 a), (6, xi j)] [] m9 o := by
    intro n
    induction n with
    | zero =>
      intro j m9 j0 hj he9
      refine wpt (n := 5) hC tkX10_fault hF (by decide) [31] 200 ?_
      refine ⟨fun q => ⟨(ck_r c1 (c2)), rfl, he9.symm, rfl⟩, fun q => ?_⟩
      rw [hd, wr_of (by omega) (by omega)] at q; omega
    | succ n ih =>
      intro j m9 j0 hj he9
      refine wpt (n := 5) hC tkX10_fault hF (by decide) [31] 200 ?_
      refine ⟨fun q => ?_, fun q => ⟨⟨by show 0 ≤ b * 24 + j; omega, by show b * 24 + j < 720; omega⟩, ?_⟩⟩
      · rw [hd, wr_of (by omega) (by omega)] at q; omega
      exact ih (j + 1) _ (by omega) (by omega) he9
  exact ⟨⟨a0, a1⟩, loop (d9 - c9 + 1).toNat c9 _ f0 (by omega) rfl⟩
set_option maxRecDepth 100000 in
set_option maxHeartbeats 400000 in
theorem M_mount (mm : Mm) (o : Int64) (a b c9 : Int) (ha : wr a = a) (hb : wr b = b) (hc : wr c9 = c9) : MetT iX10_mount 4 [xr 1 0, xi a, xi b, xi c9] mm o (tF (ck (ixC a 3) (ck (ixC b 30) (ck (ixC c9 3) (stC (bz (rd mm 26 0 8 ≤ b * 24)))))) (rto (xi (rd mm 14 a b)) (ufC mm a b c9) o)) (tG (ck (ixC a 3) (ck (ixC b 30) (ck (ixC c9 3) (stC (bz (rd mm 26 0 8 ≤ b * 24)))))) mm o) := by
  refine MetT.of 1 (by decide +kernel) rfl (Nat.le_of_ble_eq_true rfl) ⟨by decide, by decide⟩ ?_
  intro p l e s m args below meth c V D ad hC hN hT hst hex hok hF
  refine wpt0 hC tkX10_mount hF [] 200 ?_
  refine Wx.tcallS (x := iX10_mount) (y := iX10_needIndex) (j := 0) (k' := 1) (avs := [_, _]) (rest := []) hC hN hT hst hex tkX10_mount rfl rfl rfl kX10_needIndex rfl (M_needIndex _ _ _ _ ha rfl) rfl (Nat.le_of_ble_eq_true rfl) (by exact nol rfl) (by decide) ?_ ?_
  · rintro E mm' o' ⟨q, rfl, rfl⟩
    exact ⟨ck_l q, rfl, rfl⟩
  rintro r mm' o' ⟨c1, rfl, rfl, rfl⟩
  refine wpt (n := 1) hC tkX10_mount hF (by decide) [] 200 ?_
  refine Wx.tcallS (x := iX10_mount) (y := iX10_needIndex) (j := 1) (k' := 1) (avs := [_, _]) (rest := []) hC hN hT hst hex tkX10_mount rfl rfl rfl kX10_needIndex rfl (M_needIndex _ _ _ _ hb rfl) rfl (Nat.le_of_ble_eq_true rfl) (by exact nol rfl) (by decide) ?_ ?_
  · rintro E mm' o' ⟨q, rfl, rfl⟩
    exact ⟨ck_r c1 (ck_l q), rfl, rfl⟩
  rintro r mm' o' ⟨c2, rfl, rfl, rfl⟩
  refine wpt (n := 2) hC tkX10_mount hF (by decide) [] 200 ?_
  refine Wx.tcallS (x := iX10_mount) (y := iX10_needIndex) (j := 2) (k' := 1) (avs := [_, _]) (rest := []) hC hN hT hst hex tkX10_mount rfl rfl rfl kX10_needIndex rfl (M_needIndex _ _ _ _ hc rfl) rfl (Nat.le_of_ble_eq_true rfl) (by exact nol rfl) (by decide) ?_ ?_
  · rintro E mm' o' ⟨q, rfl, rfl⟩
    exact ⟨ck_r c1 (ck_r c2 (ck_l q)), rfl, rfl⟩
  rintro r mm' o' ⟨c3, rfl, rfl, rfl⟩
  refine wpt (n := 3) hC tkX10_mount hF (by decide) [] 200 ?_
  obtain ⟨a0, a1⟩ := ix_of c1
  obtain ⟨b0, b1⟩ := ix_of c2
  refine ⟨fun q => ?_, fun q => ?_⟩
  · refine Wx.tcallS (x := iX10_mount) (y := iX10_needState) (j := 3) (k' := 1) (avs := [_]) (rest := []) hC hN hT hst hex tkX10_mount rfl rfl rfl kX10_needState rfl (M_needState _ _ 0 rfl) rfl (Nat.le_of_ble_eq_true rfl) (by exact nol rfl) (by decide) ?_ ?_
    · rintro E mm' o' ⟨q2, rfl, rfl⟩
      exact ⟨ck_r c1 (ck_r c2 (ck_r c3 ((congrArg stC (bz_f (by rw [wr_rd, wr_of (by omega) (by omega)] at q; omega))).trans q2))), rfl, rfl⟩
    · rintro r mm' o' ⟨q2, -⟩
      exact absurd q2 (by decide)
  refine Wx.tcallS (x := iX10_mount) (y := iX10_needState) (j := 3) (k' := 1) (avs := [_]) (rest := []) hC hN hT hst hex tkX10_mount rfl rfl rfl kX10_needState rfl (M_needState _ _ 1 rfl) rfl (Nat.le_of_ble_eq_true rfl) (by exact nol rfl) (by decide) ?_ ?_
  · rintro E mm' o' ⟨q2, -⟩
    exact nomatch (q2.symm.trans (by decide : stC 1 = none))
  rintro r mm' o' ⟨-, rfl, rfl, rfl⟩
  have hp : rd mm 26 0 8 ≤ b * 24 := by rw [wr_rd, wr_of (by omega) (by omega)] at q; omega
  have c4 : stC (bz (rd mm 26 0 8 ≤ b * 24)) = none := (congrArg stC (bz_t hp)).trans rfl
  refine wpt (n := 4) hC tkX10_mount hF (by decide) [] 200 ?_
  refine ⟨⟨a0, a1⟩, ⟨b0, b1⟩, ⟨a0, a1⟩, ?_⟩
  refine Wx.gcallV (y := iX7_useFrom) (k := 11) (avs := [_, _]) (rest := []) hC hN ⟨by decide, by decide⟩ tkX10_mount rfl rfl kX7_useFrom ⟨by decide, by decide⟩ (M_useFrom _ _ _ _ _ b0 b1) ⟨rfl, rfl⟩ rfl (Nat.le_of_ble_eq_true rfl) (by exact nol rfl) ?_
  rintro r mm' o' ⟨rfl, rfl, rfl⟩
  refine wpt (n := 4) hC tkX10_mount hF (by decide) [] 200 ?_
  exact ⟨(ck_r c1 (ck_r c2 (ck_r c3 (c4)))), rfl, rfl, rfl⟩
set_option maxRecDepth 100000 in
set_option maxHeartbeats 400000 in
theorem M_calibrate (mm : Mm) (o : Int64) (a b c9 : Int) (ha : wr a = a) (hb : wr b = b) (hc : wr c9 = c9) : MetT iX10_calibrate 3 [xr 1 0, xi a, xi b, xi c9] mm o (tF (ck (ixC a 3) (ck (ixC b 3) (ixC c9 30))) (rto (xi (bz (rd mm 16 a (b * 30 + c9) = 0))) (st mm 16 a (b * 30 + c9) (wr 1 % 2)) o)) (tG (ck (ixC a 3) (ck (ixC b 3) (ixC c9 30))) mm o) := by
  refine MetT.of 2 (by decide +kernel) rfl (Nat.le_of_ble_eq_true rfl) ⟨by decide, by decide⟩ ?_
  intro p l e s m args below meth c V D ad hC hN hT hst hex hok hF
  refine wpt0 hC tkX10_calibrate hF [] 200 ?_
  refine Wx.tcallS (x := iX10_calibrate) (y := iX10_needIndex) (j := 0) (k' := 1) (avs := [_, _]) (rest := []) hC hN hT hst hex tkX10_calibrate rfl rfl rfl kX10_needIndex rfl (M_needIndex _ _ _ _ ha rfl) rfl (Nat.le_of_ble_eq_true rfl) (by exact nol rfl) (by decide) ?_ ?_
  · rintro E mm' o' ⟨q, rfl, rfl⟩
    exact ⟨ck_l q, rfl, rfl⟩
  rintro r mm' o' ⟨c1, rfl, rfl, rfl⟩
  refine wpt (n := 1) hC tkX10_calibrate hF (by decide) [] 200 ?_
  refine Wx.tcallS (x := iX10_calibrate) (y := iX10_needIndex) (j := 1) (k' := 1) (avs := [_, _]) (rest := []) hC hN hT hst hex tkX10_calibrate rfl rfl rfl kX10_needIndex rfl (M_needIndex _ _ _ _ hb rfl) rfl (Nat.le_of_ble_eq_true rfl) (by exact nol rfl) (by decide) ?_ ?_
  · rintro E mm' o' ⟨q, rfl, rfl⟩
    exact ⟨ck_r c1 (ck_l q), rfl, rfl⟩
  rintro r mm' o' ⟨c2, rfl, rfl, rfl⟩
  refine wpt (n := 2) hC tkX10_calibrate hF (by decide) [] 200 ?_
  refine Wx.tcallS (x := iX10_calibrate) (y := iX10_needIndex) (j := 2) (k' := 1) (avs := [_, _]) (rest := []) hC hN hT hst hex tkX10_calibrate rfl rfl rfl kX10_needIndex rfl (M_needIndex _ _ _ _ hc rfl) rfl (Nat.le_of_ble_eq_true rfl) (by exact nol rfl) (by decide) ?_ ?_
  · rintro E mm' o' ⟨q, rfl, rfl⟩
    exact ⟨ck_r c1 (ck_r c2 (q)), rfl, rfl⟩
  rintro r mm' o' ⟨c3, rfl, rfl, rfl⟩
  refine wpt (n := 3) hC tkX10_calibrate hF (by decide) [] 200 ?_
  obtain ⟨a0, a1⟩ := ix_of c1
  obtain ⟨b0, b1⟩ := ix_of c2
  obtain ⟨f0, f1⟩ := ix_of c3
  have r0 : 0 ≤ b * 30 + c9 ∧ b * 30 + c9 < 90 := by omega
  refine ⟨⟨a0, a1⟩, r0, fun q => ⟨r0, ?_⟩, fun q => ⟨r0, ?_⟩⟩
  · rw [wr_rd] at q
    exact ⟨Or.inl rfl, (ck_r c1 (ck_r c2 (c3))), congrArg (fun z => some (xi z)) (bz_f q).symm, rfl, rfl⟩
  · rw [wr_rd] at q
    exact ⟨Or.inr rfl, (ck_r c1 (ck_r c2 (c3))), congrArg (fun z => some (xi z)) (bz_t q).symm, rfl, rfl⟩
def proC (mm : Mm) (a b c9 d : Int) : Mm := st (st (st (st (st mm 5 0 6 (wr (rd mm 5 0 6 + 1))) 17 (rd mm 5 0 6) 0 (wr a)) 17 (rd mm 5 0 6) 1 (wr b)) 17 (rd mm 5 0 6) 2 (wr c9)) 17 (rd mm 5 0 6) 3 (wr d)
set_option maxRecDepth 100000 in
set_option maxHeartbeats 400000 in
theorem M_proposal (mm : Mm) (o : Int64) (a b c9 d9 : Int) (ha : wr a = a) (hb : wr b = b) (hc : wr c9 = c9) (hd : wr d9 = d9) (hI : IA mm) : MetT iX10_proposal 5 [xr 1 0, xi a, xi b, xi c9, xi d9] mm o (tF (ck (ixC a 4) (ck (rgC b 0 9) (ck (rgC c9 0 100) (ck (rgC d9 0 30) (stC (bz (rd mm 5 0 6 < 8))))))) (rto (xi (rd mm 5 0 6)) (proC mm a b c9 d9) o)) (tG (ck (ixC a 4) (ck (rgC b 0 9) (ck (rgC c9 0 100) (ck (rgC d9 0 30) (stC (bz (rd mm 5 0 6 < 8))))))) mm o) := by
  refine MetT.of 1 (by decide +kernel) rfl (Nat.le_of_ble_eq_true rfl) ⟨by decide, by decide⟩ ?_
  intro p l e s m args below meth c V D ad hC hN hT hst hex hok hF
  have hc0 := hI.2.2.2.1.1
  refine wpt0 hC tkX10_proposal hF [] 200 ?_
  refine Wx.tcallS (x := iX10_proposal) (y := iX10_needIndex) (j := 0) (k' := 1) (avs := [_, _]) (rest := []) hC hN hT hst hex tkX10_proposal rfl rfl rfl kX10_needIndex rfl (M_needIndex _ _ _ _ ha rfl) rfl (Nat.le_of_ble_eq_true rfl) (by exact nol rfl) (by decide) ?_ ?_
  · rintro E mm' o' ⟨q, rfl, rfl⟩
    exact ⟨ck_l q, rfl, rfl⟩
  rintro r mm' o' ⟨c1, rfl, rfl, rfl⟩
  refine wpt (n := 1) hC tkX10_proposal hF (by decide) [] 200 ?_
  refine Wx.tcallS (x := iX10_proposal) (y := iX10_needRange) (j := 1) (k' := 1) (avs := [_, _, _]) (rest := []) hC hN hT hst hex tkX10_proposal rfl rfl rfl kX10_needRange rfl (M_needRange _ _ _ _ _ hb rfl rfl) rfl (Nat.le_of_ble_eq_true rfl) (by exact nol rfl) (by decide) ?_ ?_
  · rintro E mm' o' ⟨q, rfl, rfl⟩
    exact ⟨ck_r c1 (ck_l q), rfl, rfl⟩
  rintro r mm' o' ⟨c2, rfl, rfl, rfl⟩
  refine wpt (n := 2) hC tkX10_proposal hF (by decide) [] 200 ?_
  refine Wx.tcallS (x := iX10_proposal) (y := iX10_needRange) (j := 2) (k' := 1) (avs := [_, _, _]) (rest := []) hC hN hT hst hex tkX10_proposal rfl rfl rfl kX10_needRange rfl (M_needRange _ _ _ _ _ hc rfl rfl) rfl (Nat.le_of_ble_eq_true rfl) (by exact nol rfl) (by decide) ?_ ?_
  · rintro E mm' o' ⟨q, rfl, rfl⟩
    exact ⟨ck_r c1 (ck_r c2 (ck_l q)), rfl, rfl⟩
  rintro r mm' o' ⟨c3, rfl, rfl, rfl⟩
  refine wpt (n := 3) hC tkX10_proposal hF (by decide) [] 200 ?_
  refine Wx.tcallS (x := iX10_proposal) (y := iX10_needRange) (j := 3) (k' := 1) (avs := [_, _, _]) (rest := []) hC hN hT hst hex tkX10_proposal rfl rfl rfl kX10_needRange rfl (M_needRange _ _ _ _ _ hd rfl rfl) rfl (Nat.le_of_ble_eq_true rfl) (by exact nol rfl) (by decide) ?_ ?_
  · rintro E mm' o' ⟨q, rfl, rfl⟩
    exact ⟨ck_r c1 (ck_r c2 (ck_r c3 (ck_l q))), rfl, rfl⟩
  rintro r mm' o' ⟨c4, rfl, rfl, rfl⟩
  refine wpt (n := 4) hC tkX10_proposal hF (by decide) [] 200 ?_
  refine ⟨fun q => ?_, fun q => ?_⟩
  · refine Wx.tcallS (x := iX10_proposal) (y := iX10_needState) (j := 4) (k' := 1) (avs := [_]) (rest := []) hC hN hT hst hex tkX10_proposal rfl rfl rfl kX10_needState rfl (M_needState _ _ 0 rfl) rfl (Nat.le_of_ble_eq_true rfl) (by exact nol rfl) (by decide) ?_ ?_
    · rintro E mm' o' ⟨q2, rfl, rfl⟩
      exact ⟨ck_r c1 (ck_r c2 (ck_r c3 (ck_r c4 ((congrArg stC (bz_f (by rw [wr_rd, show wr 8 = 8 from rfl] at q; omega))).trans q2)))), rfl, rfl⟩
    · rintro r mm' o' ⟨q2, -⟩
      exact absurd q2 (by decide)
  refine Wx.tcallS (x := iX10_proposal) (y := iX10_needState) (j := 4) (k' := 1) (avs := [_]) (rest := []) hC hN hT hst hex tkX10_proposal rfl rfl rfl kX10_needState rfl (M_needState _ _ 1 rfl) rfl (Nat.le_of_ble_eq_true rfl) (by exact nol rfl) (by decide) ?_ ?_
  · rintro E mm' o' ⟨q2, -⟩
    exact nomatch (q2.symm.trans (by decide : stC 1 = none))
  rintro r mm' o' ⟨-, rfl, rfl, rfl⟩
  have hp : rd mm 5 0 6 < 8 := by rw [wr_rd, show wr 8 = 8 from rfl] at q; omega
  have c5 : stC (bz (rd mm 5 0 6 < 8)) = none := (congrArg stC (bz_t hp)).trans rfl
  refine wpt (n := 5) hC tkX10_proposal hF (by decide) [] 200 ?_
  exact ⟨⟨hc0, hp⟩, (ck_r c1 (ck_r c2 (ck_r c3 (ck_r c4 (c5))))), rfl, rfl, rfl⟩
