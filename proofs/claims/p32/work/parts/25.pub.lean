/-! ===== the calls of the class, III ===== -/
def serC (mm : Mm) (a b c9 d : Int) : Mm := st (st (st (st mm 18 a 12 1) 18 a 13 (wr b)) 18 a 14 (wr c9)) 18 a 15 (wr d)
set_option maxRecDepth 100000 in
set_option maxHeartbeats 400000 in
theorem M_series (mm : Mm) (o : Int64) (a b c9 d9 : Int) (ha : wr a = a) (hb : wr b = b) (hc : wr c9 = c9) (hd : wr d9 = d9) (hI : IA mm) : MetT iX10_series 6 [xr 1 0, xi a, xi b, xi c9, xi d9] mm o (tF (ck (ixC a (rd mm 5 0 7)) (ck (ixC b 30) (ck (rgC c9 1 30) (ck (rgC d9 0 5) (ck (rgC (2 * d9) 0 (c9 - 1)) (stC (bz (rd mm 18 a 12 = 0)))))))) (rtv (serC mm a b c9 d9) o)) (tG (ck (ixC a (rd mm 5 0 7)) (ck (ixC b 30) (ck (rgC c9 1 30) (ck (rgC d9 0 5) (ck (rgC (2 * d9) 0 (c9 - 1)) (stC (bz (rd mm 18 a 12 = 0)))))))) mm o) := by
  refine MetT.of 0 (by decide +kernel) rfl (Nat.le_of_ble_eq_true rfl) ⟨by decide, by decide⟩ ?_
  intro p l e s m args below meth c V D ad hC hN hT hst hex hok hF
  have hn1 := hI.2.2.2.2.1.2
  refine wpt0 hC tkX10_series hF [] 200 ?_
  refine Wx.tcallS (x := iX10_series) (y := iX10_needIndex) (j := 0) (k' := 1) (avs := [_, _]) (rest := []) hC hN hT hst hex tkX10_series rfl rfl rfl kX10_needIndex rfl (M_needIndex _ _ _ _ ha (wr_rd _ _ _ _)) rfl (Nat.le_of_ble_eq_true rfl) (by exact nol rfl) (by decide) ?_ ?_
  · rintro E mm' o' ⟨q, rfl, rfl⟩
    exact ⟨ck_l q, rfl, rfl⟩
  rintro r mm' o' ⟨c1, rfl, rfl, rfl⟩
  refine wpt (n := 1) hC tkX10_series hF (by decide) [] 200 ?_
  refine Wx.tcallS (x := iX10_series) (y := iX10_needIndex) (j := 1) (k' := 1) (avs := [_, _]) (rest := []) hC hN hT hst hex tkX10_series rfl rfl rfl kX10_needIndex rfl (M_needIndex _ _ _ _ hb rfl) rfl (Nat.le_of_ble_eq_true rfl) (by exact nol rfl) (by decide) ?_ ?_
  · rintro E mm' o' ⟨q, rfl, rfl⟩
    exact ⟨ck_r c1 (ck_l q), rfl, rfl⟩
  rintro r mm' o' ⟨c2, rfl, rfl, rfl⟩
  refine wpt (n := 2) hC tkX10_series hF (by decide) [] 200 ?_
  refine Wx.tcallS (x := iX10_series) (y := iX10_needRange) (j := 2) (k' := 1) (avs := [_, _, _]) (rest := []) hC hN hT hst hex tkX10_series rfl rfl rfl kX10_needRange rfl (M_needRange _ _ _ _ _ hc rfl rfl) rfl (Nat.le_of_ble_eq_true rfl) (by exact nol rfl) (by decide) ?_ ?_
  · rintro E mm' o' ⟨q, rfl, rfl⟩
    exact ⟨ck_r c1 (ck_r c2 (ck_l q)), rfl, rfl⟩
  rintro r mm' o' ⟨c3, rfl, rfl, rfl⟩
  refine wpt (n := 3) hC tkX10_series hF (by decide) [] 200 ?_
  refine Wx.tcallS (x := iX10_series) (y := iX10_needRange) (j := 3) (k' := 1) (avs := [_, _, _]) (rest := []) hC hN hT hst hex tkX10_series rfl rfl rfl kX10_needRange rfl (M_needRange _ _ _ _ _ hd rfl rfl) rfl (Nat.le_of_ble_eq_true rfl) (by exact nol rfl) (by decide) ?_ ?_
  · rintro E mm' o' ⟨q, rfl, rfl⟩
    exact ⟨ck_r c1 (ck_r c2 (ck_r c3 (ck_l q))), rfl, rfl⟩
  rintro r mm' o' ⟨c4, rfl, rfl, rfl⟩
  refine wpt (n := 4) hC tkX10_series hF (by decide) [] 200 ?_
  obtain ⟨a0, a1⟩ := ix_of c1
  obtain ⟨f0, f1⟩ := rg_of c3
  obtain ⟨d0, d1⟩ := rg_of c4
  refine Wx.tcallS (x := iX10_series) (y := iX10_needRange) (j := 4) (k' := 1) (avs := [_, _, _]) (rest := []) hC hN hT hst hex tkX10_series rfl rfl rfl kX10_needRange rfl (M_needRange _ _ _ _ _ (wr_of (by omega) (by omega)) rfl (wr_of (by omega) (by omega))) rfl (Nat.le_of_ble_eq_true rfl) (by exact nol rfl) (by decide) ?_ ?_
  · rintro E mm' o' ⟨q, rfl, rfl⟩
    exact ⟨ck_r c1 (ck_r c2 (ck_r c3 (ck_r c4 (ck_l q)))), rfl, rfl⟩
  rintro r mm' o' ⟨c5, rfl, rfl, rfl⟩
  refine wpt (n := 5) hC tkX10_series hF (by decide) [] 200 ?_
  have a2 : 0 ≤ a ∧ a < 24 := by omega
  refine ⟨a2, ?_⟩
  refine ⟨fun q => ?_, fun q => ?_⟩
  · refine Wx.tcallS (x := iX10_series) (y := iX10_needState) (j := 5) (k' := 1) (avs := [_]) (rest := []) hC hN hT hst hex tkX10_series rfl rfl rfl kX10_needState rfl (M_needState _ _ 0 rfl) rfl (Nat.le_of_ble_eq_true rfl) (by exact nol rfl) (by decide) ?_ ?_
    · rintro E mm' o' ⟨q2, rfl, rfl⟩
      exact ⟨ck_r c1 (ck_r c2 (ck_r c3 (ck_r c4 (ck_r c5 ((congrArg stC (bz_f (by rw [wr_rd] at q; exact q))).trans q2))))), rfl, rfl⟩
    · rintro r mm' o' ⟨q2, -⟩
      exact absurd q2 (by decide)
  refine Wx.tcallS (x := iX10_series) (y := iX10_needState) (j := 5) (k' := 1) (avs := [_]) (rest := []) hC hN hT hst hex tkX10_series rfl rfl rfl kX10_needState rfl (M_needState _ _ 1 rfl) rfl (Nat.le_of_ble_eq_true rfl) (by exact nol rfl) (by decide) ?_ ?_
  · rintro E mm' o' ⟨q2, -⟩
    exact nomatch (q2.symm.trans (by decide : stC 1 = none))
  rintro r mm' o' ⟨-, rfl, rfl, rfl⟩
  have hp : rd mm 18 a 12 = 0 := by rw [wr_rd] at q; exact q
  have c6 : stC (bz (rd mm 18 a 12 = 0)) = none := (congrArg stC (bz_t hp)).trans rfl
  refine wpt (n := 6) hC tkX10_series hF (by decide) [] 200 ?_
  exact ⟨Or.inr rfl, (ck_r c1 (ck_r c2 (ck_r c3 (ck_r c4 (ck_r c5 (c6)))))), rfl, rfl, rfl⟩
set_option maxRecDepth 100000 in
set_option maxHeartbeats 400000 in
theorem M_wants (mm : Mm) (o : Int64) (a b : Int) (ha : wr a = a) (hb : wr b = b) (hI : IA mm) : MetT iX10_wants 2 [xr 1 0, xi a, xi b] mm o (tF (ck (ixC a (rd mm 5 0 7)) (ixC b 30)) (rto (xi (bz (wantC mm (30 + 0) a b))) mm o)) (tG (ck (ixC a (rd mm 5 0 7)) (ixC b 30)) mm o) := by
  refine MetT.of 2 (by decide +kernel) rfl (Nat.le_of_ble_eq_true rfl) ⟨by decide, by decide⟩ ?_
  intro p l e s m args below meth c V D ad hC hN hT hst hex hok hF
  have hn1 := hI.2.2.2.2.1.2
  refine wpt0 hC tkX10_wants hF [] 200 ?_
  refine Wx.tcallS (x := iX10_wants) (y := iX10_needIndex) (j := 0) (k' := 1) (avs := [_, _]) (rest := []) hC hN hT hst hex tkX10_wants rfl rfl rfl kX10_needIndex rfl (M_needIndex _ _ _ _ ha (wr_rd _ _ _ _)) rfl (Nat.le_of_ble_eq_true rfl) (by exact nol rfl) (by decide) ?_ ?_
  · rintro E mm' o' ⟨q, rfl, rfl⟩
    exact ⟨ck_l q, rfl, rfl⟩
  rintro r mm' o' ⟨c1, rfl, rfl, rfl⟩
  refine wpt (n := 1) hC tkX10_wants hF (by decide) [] 200 ?_
  refine Wx.tcallS (x := iX10_wants) (y := iX10_needIndex) (j := 1) (k' := 1) (avs := [_, _]) (rest := []) hC hN hT hst hex tkX10_wants rfl rfl rfl kX10_needIndex rfl (M_needIndex _ _ _ _ hb rfl) rfl (Nat.le_of_ble_eq_true rfl) (by exact nol rfl) (by decide) ?_ ?_
  · rintro E mm' o' ⟨q, rfl, rfl⟩
    exact ⟨ck_r c1 (q), rfl, rfl⟩
  rintro r mm' o' ⟨c2, rfl, rfl, rfl⟩
  refine wpt (n := 2) hC tkX10_wants hF (by decide) [] 200 ?_
  obtain ⟨a0, a1⟩ := ix_of c1
  have a2 : 0 ≤ a ∧ a < 24 := by omega
  obtain ⟨-, -, -, t9, -⟩ := hI.1 a a2.1 a2.2
  refine ⟨a2, ?_⟩
  refine Wx.gcallV (y := iX3_isWanted) (k := 20) (avs := [_, _]) (rest := []) hC hN ⟨by decide, by decide⟩ tkX10_wants rfl rfl kX3_isWanted ⟨by decide, by decide⟩ (M_isWanted _ _ _ _ _ t9.1 t9.2) ⟨rfl, rfl⟩ rfl (Nat.le_of_ble_eq_true rfl) (by exact nol rfl) ?_
  rintro r mm' o' ⟨rfl, rfl, rfl⟩
  refine wpt (n := 2) hC tkX10_wants hF (by decide) [] 200 ?_
  exact ⟨bz01 _, (ck_r c1 (c2)), rfl, rfl, rfl⟩
set_option maxRecDepth 100000 in
set_option maxHeartbeats 400000 in
theorem M_goingOn (mm : Mm) (o : Int64) (a b : Int) (ha : wr a = a) (hb : wr b = b) : MetT iX10_goingOn 2 [xr 1 0, xi a, xi b] mm o (tF (ck (ixC a 3) (rgC b 0 2)) (rto (xi (rd mm 31 (27 * 0 + a) b)) mm o)) (tG (ck (ixC a 3) (rgC b 0 2)) mm o) := by
  refine MetT.of 1 (by decide +kernel) rfl (Nat.le_of_ble_eq_true rfl) ⟨by decide, by decide⟩ ?_
  intro p l e s m args below meth c V D ad hC hN hT hst hex hok hF
  refine wpt0 hC tkX10_goingOn hF [] 200 ?_
  refine Wx.tcallS (x := iX10_goingOn) (y := iX10_needIndex) (j := 0) (k' := 1) (avs := [_, _]) (rest := []) hC hN hT hst hex tkX10_goingOn rfl rfl rfl kX10_needIndex rfl (M_needIndex _ _ _ _ ha rfl) rfl (Nat.le_of_ble_eq_true rfl) (by exact nol rfl) (by decide) ?_ ?_
  · rintro E mm' o' ⟨q, rfl, rfl⟩
    exact ⟨ck_l q, rfl, rfl⟩
  rintro r mm' o' ⟨c1, rfl, rfl, rfl⟩
  refine wpt (n := 1) hC tkX10_goingOn hF (by decide) [] 200 ?_
  refine Wx.tcallS (x := iX10_goingOn) (y := iX10_needRange) (j := 1) (k' := 1) (avs := [_, _, _]) (rest := []) hC hN hT hst hex tkX10_goingOn rfl rfl rfl kX10_needRange rfl (M_needRange _ _ _ _ _ hb rfl rfl) rfl (Nat.le_of_ble_eq_true rfl) (by exact nol rfl) (by decide) ?_ ?_
  · rintro E mm' o' ⟨q, rfl, rfl⟩
    exact ⟨ck_r c1 (q), rfl, rfl⟩
  rintro r mm' o' ⟨c2, rfl, rfl, rfl⟩
  refine wpt (n := 2) hC tkX10_goingOn hF (by decide) [] 200 ?_
  obtain ⟨a0, a1⟩ := ix_of c1
  obtain ⟨b0, b1⟩ := rg_of c2
  refine ⟨⟨a0, a1⟩, fun q => ⟨fun q2 => ⟨(ck_r c1 (c2)), ?_, rfl, rfl⟩, fun q2 => ⟨(ck_r c1 (c2)), ?_, rfl, rfl⟩⟩, fun q => ⟨(ck_r c1 (c2)), ?_, rfl, rfl⟩⟩
  · rw [hb] at q q2
    have hb2 : b = 2 := by rw [show wr 1 = 1 from rfl] at q2; omega
    subst hb2; rfl
  · rw [hb] at q q2
    have hb2 : b = 1 := by rw [show wr 1 = 1 from rfl] at q2; omega
    subst hb2; rfl
  · rw [hb] at q
    subst q; rfl
set_option maxRecDepth 100000 in
set_option maxHeartbeats 400000 in
theorem M_visits (mm : Mm) (o : Int64) (a : Int) (ha : wr a = a) (hI : IA mm) : MetT iX10_visits 1 [xr 1 0, xi a] mm o (tF (ixC a (rd mm 5 0 7)) (rto (xi (rd mm 21 (30 + 0) a)) mm o)) (tG (ixC a (rd mm 5 0 7)) mm o) := by
  refine MetT.of 1 (by decide +kernel) rfl (Nat.le_of_ble_eq_true rfl) ⟨by decide, by decide⟩ ?_
  intro p l e s m args below meth c V D ad hC hN hT hst hex hok hF
  have hn1 := hI.2.2.2.2.1.2
  refine wpt0 hC tkX10_visits hF [] 200 ?_
  refine Wx.tcallS (x := iX10_visits) (y := iX10_needIndex) (j := 0) (k' := 1) (avs := [_, _]) (rest := []) hC hN hT hst hex tkX10_visits rfl rfl rfl kX10_needIndex rfl (M_needIndex _ _ _ _ ha (wr_rd _ _ _ _)) rfl (Nat.le_of_ble_eq_true rfl) (by exact nol rfl) (by decide) ?_ ?_
  · rintro E mm' o' ⟨q, rfl, rfl⟩
    exact ⟨q, rfl, rfl⟩
  rintro r mm' o' ⟨c1, rfl, rfl, rfl⟩
  refine wpt (n := 1) hC tkX10_visits hF (by decide) [] 200 ?_
  obtain ⟨a0, a1⟩ := ix_of c1
  exact ⟨⟨a0, by show a < (24 : Int); omega⟩, (c1), rfl, rfl, rfl⟩
noncomputable def sltC (mm : Mm) (a z : Int) : Int := pif (z = 0) (rd mm 25 (30 + 0) a) (rd mm 32 0 a)
set_option maxRecDepth 100000 in
set_option maxHeartbeats 400000 in
theorem M_slots (mm : Mm) (o : Int64) (a z : Int) (ha : wr a = a) (hz : wr z = z) : MetT iX10_slots 1 [xr 1 0, xi a, xi z] mm o (tF (ixC a 4) (rto (xi (sltC mm a z)) mm o)) (tG (ixC a 4) mm o) := by
  refine MetT.of 1 (by decide +kernel) rfl (Nat.le_of_ble_eq_true rfl) ⟨by decide, by decide⟩ ?_
  intro p l e s m args below meth c V D ad hC hN hT hst hex hok hF
  refine wpt0 hC tkX10_slots hF [] 200 ?_
  refine Wx.tcallS (x := iX10_slots) (y := iX10_needIndex) (j := 0) (k' := 1) (avs := [_, _]) (rest := []) hC hN hT hst hex tkX10_slots rfl rfl rfl kX10_needIndex rfl (M_needIndex _ _ _ _ ha rfl) rfl (Nat.le_of_ble_eq_true rfl) (by exact nol rfl) (by decide) ?_ ?_
  · rintro E mm' o' ⟨q, rfl, rfl⟩
    exact ⟨q, rfl, rfl⟩
  rintro r mm' o' ⟨c1, rfl, rfl, rfl⟩
  refine wpt (n := 1) hC tkX10_slots hF (by decide) [] 200 ?_
  obtain ⟨a0, a1⟩ := ix_of c1
  refine ⟨fun q => ⟨⟨a0, a1⟩, (c1), ?_, rfl, rfl⟩, fun q => ⟨⟨a0, a1⟩, (c1), ?_, rfl, rfl⟩⟩
  · rw [hz] at q; exact congrArg (fun z => some (xi z)) (pif_t q).symm
  · rw [hz] at q; exact congrArg (fun z => some (xi z)) (pif_f q).symm
noncomputable def lstC (mm : Mm) (a z : Int) : Int := pif (z = 0) (rd mm 34 0 a) (rd mm 33 0 a)
set_option maxRecDepth 100000 in
set_option maxHeartbeats 400000 in
theorem M_lost (mm : Mm) (o : Int64) (a z : Int) (ha : wr a = a) (hz : wr z = z) : MetT iX10_lost 1 [xr 1 0, xi a, xi z] mm o (tF (ixC a 3) (rto (xi (lstC mm a z)) mm o)) (tG (ixC a 3) mm o) := by
  refine MetT.of 1 (by decide +kernel) rfl (Nat.le_of_ble_eq_true rfl) ⟨by decide, by decide⟩ ?_
  intro p l e s m args below meth c V D ad hC hN hT hst hex hok hF
  refine wpt0 hC tkX10_lost hF [] 200 ?_
  refine Wx.tcallS (x := iX10_lost) (y := iX10_needIndex) (j := 0) (k' := 1) (avs := [_, _]) (rest := []) hC hN hT hst hex tkX10_lost rfl rfl rfl kX10_needIndex rfl (M_needIndex _ _ _ _ ha rfl) rfl (Nat.le_of_ble_eq_true rfl) (by exact nol rfl) (by decide) ?_ ?_
  · rintro E mm' o' ⟨q, rfl, rfl⟩
    exact ⟨q, rfl, rfl⟩
  rintro r mm' o' ⟨c1, rfl, rfl, rfl⟩
  refine wpt (n := 1) hC tkX10_lost hF (by decide) [] 200 ?_
  obtain ⟨a0, a1⟩ := ix_of c1
  refine ⟨fun q => ⟨⟨a0, a1⟩, (c1), ?_, rfl, rfl⟩, fun q => ⟨⟨a0, a1⟩, (c1), ?_, rfl, rfl⟩⟩
  · rw [hz] at q; exact congrArg (fun z => some (xi z)) (pif_t q).symm
  · rw [hz] at q; exact congrArg (fun z => some (xi z)) (pif_f q).symm
set_option maxRecDepth 100000 in
set_option maxHeartbeats 400000 in
theorem M_datum (mm : Mm) (o : Int64) (a b : Int) (ha : wr a = a) (hb : wr b = b) (n1 : rd mm 27 0 1 ≤ 100) : MetT iX10_datum 2 [xr 1 0, xi a, xi b] mm o (tF (ck (ixC a (rd mm 27 0 1)) (rgC b 0 6)) (rto (xi (rd mm 28 0 (a * 7 + b))) mm o)) (tG (ck (ixC a (rd mm 27 0 1)) (rgC b 0 6)) mm o) := by
  refine MetT.of 1 (by decide +kernel) rfl (Nat.le_of_ble_eq_true rfl) ⟨by decide, by decide⟩ ?_
  intro p l e s m args below meth c V D ad hC hN hT hst hex hok hF
  refine wpt0 hC tkX10_datum hF [] 200 ?_
  refine Wx.tcallS (x := iX10_datum) (y := iX10_needIndex) (j := 0) (k' := 1) (avs := [_, _]) (rest := []) hC hN hT hst hex tkX10_datum rfl rfl rfl kX10_needIndex rfl (M_needIndex _ _ _ _ ha (wr_rd _ _ _ _)) rfl (Nat.le_of_ble_eq_true rfl) (by exact nol rfl) (by decide) ?_ ?_
  · rintro E mm' o' ⟨q, rfl, rfl⟩
    exact ⟨ck_l q, rfl, rfl⟩
  rintro r mm' o' ⟨c1, rfl, rfl, rfl⟩
  refine wpt (n := 1) hC tkX10_datum hF (by decide) [] 200 ?_
  refine Wx.tcallS (x := iX10_datum) (y := iX10_needRange) (j := 1) (k' := 1) (avs := [_, _, _]) (rest := []) hC hN hT hst hex tkX10_datum rfl rfl rfl kX10_needRange rfl (M_needRange _ _ _ _ _ hb rfl rfl) rfl (Nat.le_of_ble_eq_true rfl) (by exact nol rfl) (by decide) ?_ ?_
  · rintro E mm' o' ⟨q, rfl, rfl⟩
    exact ⟨ck_r c1 (q), rfl, rfl⟩
  rintro r mm' o' ⟨c2, rfl, rfl, rfl⟩
  refine wpt (n := 2) hC tkX10_datum hF (by decide) [] 200 ?_
  obtain ⟨a0, a1⟩ := ix_of c1
  obtain ⟨b0, b1⟩ := rg_of c2
  exact ⟨⟨by show 0 ≤ a * 7 + b; omega, by show a * 7 + b < (700 : Int); omega⟩, (ck_r c1 (c2)), rfl, rfl, rfl⟩
set_option maxRecDepth 100000 in
set_option maxHeartbeats 400000 in
theorem M_now  (mm : Mm) (o : Int64)  : MetX iX10_now [xr 1 0] mm o (rto (xi (rd mm 26 0 8)) mm o) := by
  refine MetX.of 1 (by decide +kernel) rfl (Nat.le_of_ble_eq_true rfl) ⟨by decide, by decide⟩ ?_
  intro p l e s m args below meth c Q V D ad A hC hN hok hF
  refine wpx hC tkX10_now hF [] 200 ?_
  exact ⟨rfl, rfl, rfl⟩
set_option maxRecDepth 100000 in
set_option maxHeartbeats 400000 in
theorem M_data  (mm : Mm) (o : Int64)  : MetX iX10_data [xr 1 0] mm o (rto (xi (rd mm 27 0 1)) mm o) := by
  refine MetX.of 1 (by decide +kernel) rfl (Nat.le_of_ble_eq_true rfl) ⟨by decide, by decide⟩ ?_
  intro p l e s m args below meth c Q V D ad A hC hN hok hF
  refine wpx hC tkX10_data hF [] 200 ?_
  exact ⟨rfl, rfl, rfl⟩
noncomputable def waitC (mm : Mm) : Int := cntT (fun t => ¬ rd mm 31 (27 * 0 + 3 + t) 0 = 0) 24 0 0
set_option maxRecDepth 100000 in
set_option maxHeartbeats 400000 in
theorem M_waiting  (mm : Mm) (o : Int64)  : MetX iX10_waiting [xr 1 0] mm o (rto (xi (waitC mm)) mm o) := by
  refine MetX.of 1 (by decide +kernel) rfl (Nat.le_of_ble_eq_true rfl) ⟨by decide, by decide⟩ ?_
  intro p l e s m args below meth c Q V D ad A hC hN hok hF
  have loop : ∀ (n : Nat) (j z : Int), 0 ≤ j → j + n = 24 → cntT (fun t => ¬ rd mm 31 (27 * 0 + 3 + t) 0 = 0) n j z = waitC mm → Wx p l e (mrm iX10_waiting) s m args below meth c 0 0 Q V D ad A 3 4 [(0, xr 1 0), (1, xi z), (2, xi j)] [] mm o := by
    intro n
    induction n with
    | zero =>
      intro j z j0 hj he
      refine wpx hC tkX10_waiting hF [4] 200 ?_
      refine ⟨fun q => ⟨congrArg (fun z => some (xi z)) he, rfl, rfl⟩, fun q => ?_⟩
      rw [show wr 24 = 24 from rfl, wr_of (by omega) (by omega)] at q; omega
    | succ n ih =>
      intro j z j0 hj he
      refine wpx hC tkX10_waiting hF [4] 200 ?_
      refine ⟨fun q => ?_, fun q => ⟨⟨j0, by show _ < (24 : Int); omega⟩, fun q2 => ?_, fun q2 => ?_⟩⟩
      · rw [show wr 24 = 24 from rfl, wr_of (by omega) (by omega)] at q; omega
      · rw [wr_rd] at q2
        exact ih (j + 1) _ (by omega) (by omega) (by rw [← he]; exact congrArg (cntT _ n (j + 1)) (pif_f (fun h => h q2)).symm)
      · rw [wr_rd] at q2
        exact ih (j + 1) _ (by omega) (by omega) (by rw [← he]; exact congrArg (cntT _ n (j + 1)) (pif_t q2).symm)
  refine wpx hC tkX10_waiting hF [4] 200 ?_
  exact loop 24 0 0 (by decide) (by decide) rfl
