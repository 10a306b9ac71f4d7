/-! ===== the calls of the class, I ===== -/
def slC (a b c d : Int) : Option String := ck (ixC a 3) (ck (ixC b 30) (ck (ixC c 24) (ixC d 24)))
theorem ix_of {z n : Int} (h : ixC z n = none) : 0 ≤ z ∧ z < n := by
  unfold ixC at h
  by_cases q : 0 ≤ z ∧ z < n
  · exact q
  · rw [if_neg q] at h; cases h
theorem rg_of {z a b : Int} (h : rgC z a b = none) : a ≤ z ∧ z ≤ b := by
  unfold rgC at h
  by_cases q : a ≤ z ∧ z ≤ b
  · exact q
  · rw [if_neg q] at h; cases h
theorem or_of {a b : Int} (h : orC a b = none) : a ≤ b := by
  unfold orC at h
  by_cases q : a ≤ b
  · exact q
  · rw [if_neg q] at h; cases h
theorem ck_of {a b : Option String} (h : ck a b = none) : a = none ∧ b = none := by
  cases a with
  | none => exact ⟨rfl, h⟩
  | some E => cases h
theorem sl_of {a b c d : Int} (h : slC a b c d = none) : (0 ≤ a ∧ a < 3) ∧ (0 ≤ b ∧ b < 30) ∧ (0 ≤ c ∧ c < 24) ∧ (0 ≤ d ∧ d < 24) := by
  obtain ⟨h1, h⟩ := ck_of h
  obtain ⟨h2, h⟩ := ck_of h
  obtain ⟨h3, h⟩ := ck_of h
  exact ⟨ix_of h1, ix_of h2, ix_of h3, ix_of h⟩
set_option maxRecDepth 100000 in
set_option maxHeartbeats 400000 in
theorem M_needSlots (mm : Mm) (o : Int64) (a b c9 d : Int) (ha : wr a = a) (hb : wr b = b) (hc : wr c9 = c9) (hd : wr d = d) : MetT iX10_needSlots 4 [xi a, xi b, xi c9, xi d] mm o (tF (slC a b c9 d) (rtv mm o)) (tG (slC a b c9 d) mm o) := by
  refine MetT.of 0 (by decide +kernel) rfl (Nat.le_of_ble_eq_true rfl) ⟨by decide, by decide⟩ ?_
  intro p l e s m args below meth c V D ad hC hN hT hst hex hok hF
  refine wpt0 hC tkX10_needSlots hF [] 200 ?_
  refine Wx.tcallS (x := iX10_needSlots) (y := iX10_needIndex) (j := 0) (k' := 1) (avs := [_, _]) (rest := []) hC hN hT hst hex tkX10_needSlots rfl rfl rfl kX10_needIndex rfl (M_needIndex _ _ _ _ ha rfl) rfl (Nat.le_of_ble_eq_true rfl) (by exact nol rfl) (by decide) ?_ ?_
  · rintro E mm' o' ⟨q, rfl, rfl⟩
    exact ⟨ck_l q, rfl, rfl⟩
  rintro r mm' o' ⟨c1, rfl, rfl, rfl⟩
  refine wpt (n := 1) hC tkX10_needSlots hF (by decide) [] 200 ?_
  refine Wx.tcallS (x := iX10_needSlots) (y := iX10_needIndex) (j := 1) (k' := 1) (avs := [_, _]) (rest := []) hC hN hT hst hex tkX10_needSlots rfl rfl rfl kX10_needIndex rfl (M_needIndex _ _ _ _ hb rfl) rfl (Nat.le_of_ble_eq_true rfl) (by exact nol rfl) (by decide) ?_ ?_
  · rintro E mm' o' ⟨q, rfl, rfl⟩
    exact ⟨ck_r c1 (ck_l q), rfl, rfl⟩
  rintro r mm' o' ⟨c2, rfl, rfl, rfl⟩
  refine wpt (n := 2) hC tkX10_needSlots hF (by decide) [] 200 ?_
  refine Wx.tcallS (x := iX10_needSlots) (y := iX10_needIndex) (j := 2) (k' := 1) (avs := [_, _]) (rest := []) hC hN hT hst hex tkX10_needSlots rfl rfl rfl kX10_needIndex rfl (M_needIndex _ _ _ _ hc rfl) rfl (Nat.le_of_ble_eq_true rfl) (by exact nol rfl) (by decide) ?_ ?_
  · rintro E mm' o' ⟨q, rfl, rfl⟩
    exact ⟨ck_r c1 (ck_r c2 (ck_l q)), rfl, rfl⟩
  rintro r mm' o' ⟨c3, rfl, rfl, rfl⟩
  refine wpt (n := 3) hC tkX10_needSlots hF (by decide) [] 200 ?_
  refine Wx.tcallS (x := iX10_needSlots) (y := iX10_needIndex) (j := 3) (k' := 1) (avs := [_, _]) (rest := []) hC hN hT hst hex tkX10_needSlots rfl rfl rfl kX10_needIndex rfl (M_needIndex _ _ _ _ hd rfl) rfl (Nat.le_of_ble_eq_true rfl) (by exact nol rfl) (by decide) ?_ ?_
  · rintro E mm' o' ⟨q, rfl, rfl⟩
    exact ⟨ck_r c1 (ck_r c2 (ck_r c3 (q))), rfl, rfl⟩
  rintro r mm' o' ⟨c4, rfl, rfl, rfl⟩
  refine wpt (n := 4) hC tkX10_needSlots hF (by decide) [] 200 ?_
  exact ⟨(ck_r c1 (ck_r c2 (ck_r c3 (c4)))), rfl, rfl, rfl⟩
set_option maxRecDepth 100000 in
set_option maxHeartbeats 400000 in
theorem M_share (mm : Mm) (o : Int64) (a b : Int) (ha : wr a = a) (hb : wr b = b) : MetT iX10_share 2 [xr 1 0, xi a, xi b] mm o (tF (ck (ixC a 4) (rgC b 0 100)) (rto (xi (rd mm 7 0 a)) (st mm 7 0 a (wr b)) o)) (tG (ck (ixC a 4) (rgC b 0 100)) mm o) := by
  refine MetT.of 1 (by decide +kernel) rfl (Nat.le_of_ble_eq_true rfl) ⟨by decide, by decide⟩ ?_
  intro p l e s m args below meth c V D ad hC hN hT hst hex hok hF
  refine wpt0 hC tkX10_share hF [] 200 ?_
  refine Wx.tcallS (x := iX10_share) (y := iX10_needIndex) (j := 0) (k' := 1) (avs := [_, _]) (rest := []) hC hN hT hst hex tkX10_share rfl rfl rfl kX10_needIndex rfl (M_needIndex _ _ _ _ ha rfl) rfl (Nat.le_of_ble_eq_true rfl) (by exact nol rfl) (by decide) ?_ ?_
  · rintro E mm' o' ⟨q, rfl, rfl⟩
    exact ⟨ck_l q, rfl, rfl⟩
  rintro r mm' o' ⟨c1, rfl, rfl, rfl⟩
  refine wpt (n := 1) hC tkX10_share hF (by decide) [] 200 ?_
  refine Wx.tcallS (x := iX10_share) (y := iX10_needRange) (j := 1) (k' := 1) (avs := [_, _, _]) (rest := []) hC hN hT hst hex tkX10_share rfl rfl rfl kX10_needRange rfl (M_needRange _ _ _ _ _ hb rfl rfl) rfl (Nat.le_of_ble_eq_true rfl) (by exact nol rfl) (by decide) ?_ ?_
  · rintro E mm' o' ⟨q, rfl, rfl⟩
    exact ⟨ck_r c1 (q), rfl, rfl⟩
  rintro r mm' o' ⟨c2, rfl, rfl, rfl⟩
  refine wpt (n := 2) hC tkX10_share hF (by decide) [] 200 ?_
  obtain ⟨a0, a1⟩ := ix_of c1
  exact ⟨⟨a0, a1⟩, ⟨a0, a1⟩, (ck_r c1 (c2)), rfl, rfl, rfl⟩
set_option maxRecDepth 100000 in
set_option maxHeartbeats 400000 in
theorem M_light (mm : Mm) (o : Int64) (a : Int) (ha : wr a = a) : MetT iX10_light 1 [xr 1 0, xi a] mm o (tF (ixC a 30) (rto (xi (moonC mm a)) mm o)) (tG (ixC a 30) mm o) := by
  refine MetT.of 1 (by decide +kernel) rfl (Nat.le_of_ble_eq_true rfl) ⟨by decide, by decide⟩ ?_
  intro p l e s m args below meth c V D ad hC hN hT hst hex hok hF
  refine wpt0 hC tkX10_light hF [] 200 ?_
  refine Wx.tcallS (x := iX10_light) (y := iX10_needIndex) (j := 0) (k' := 1) (avs := [_, _]) (rest := []) hC hN hT hst hex tkX10_light rfl rfl rfl kX10_needIndex rfl (M_needIndex _ _ _ _ ha rfl) rfl (Nat.le_of_ble_eq_true rfl) (by exact nol rfl) (by decide) ?_ ?_
  · rintro E mm' o' ⟨q, rfl, rfl⟩
    exact ⟨q, rfl, rfl⟩
  rintro r mm' o' ⟨c1, rfl, rfl, rfl⟩
  refine wpt (n := 1) hC tkX10_light hF (by decide) [] 200 ?_
  refine Wx.gcallV (y := iX5_moonLight) (k := 5) (avs := [_]) (rest := []) hC hN ⟨by decide, by decide⟩ tkX10_light rfl rfl kX5_moonLight ⟨by decide, by decide⟩ (M_moonLight _ _ _) ⟨rfl, rfl⟩ rfl (Nat.le_of_ble_eq_true rfl) (by exact nol rfl) ?_
  rintro r mm' o' ⟨rfl, rfl, rfl⟩
  refine wpt (n := 1) hC tkX10_light hF (by decide) [] 200 ?_
  exact ⟨(c1), rfl, rfl, rfl⟩
set_option maxRecDepth 100000 in
set_option maxHeartbeats 400000 in
theorem M_seeing (mm : Mm) (o : Int64) (a b c9 : Int) (ha : wr a = a) (hb : wr b = b) (hc : wr c9 = c9) : MetT iX10_seeing 4 [xr 1 0, xi a, xi b, xi c9] mm o (tF (slC a b c9 c9) (rto (xi (seenC mm a (b * 24 + c9))) mm o)) (tG (slC a b c9 c9) mm o) := by
  refine MetT.of 1 (by decide +kernel) rfl (Nat.le_of_ble_eq_true rfl) ⟨by decide, by decide⟩ ?_
  intro p l e s m args below meth c V D ad hC hN hT hst hex hok hF
  refine wpt0 hC tkX10_seeing hF [] 200 ?_
  refine Wx.tcallS (x := iX10_seeing) (y := iX10_needSlots) (j := 0) (k' := 4) (avs := [_, _, _, _]) (rest := []) hC hN hT hst hex tkX10_seeing rfl rfl rfl kX10_needSlots rfl (M_needSlots _ _ _ _ _ _ ha hb hc hc) rfl (Nat.le_of_ble_eq_true rfl) (by exact nol rfl) (by decide) ?_ ?_
  · rintro E mm' o' ⟨q, rfl, rfl⟩
    exact ⟨q, rfl, rfl⟩
  rintro r mm' o' ⟨c1, rfl, rfl, rfl⟩
  refine wpt (n := 4) hC tkX10_seeing hF (by decide) [] 200 ?_
  obtain ⟨⟨a0, a1⟩, ⟨b0, b1⟩, ⟨d0, d1⟩, -⟩ := sl_of c1
  refine ⟨⟨a0, a1⟩, ?_⟩
  refine Wx.gcallV (y := iX7_seeingAt) (k := 11) (avs := [_]) (rest := []) hC hN ⟨by decide, by decide⟩ tkX10_seeing rfl rfl kX7_seeingAt ⟨by decide, by decide⟩ (M_seeingAt _ _ _ _ (by omega) (by omega)) ⟨rfl, rfl⟩ rfl (Nat.le_of_ble_eq_true rfl) (by exact nol rfl) ?_
  rintro r mm' o' ⟨rfl, rfl, rfl⟩
  refine wpt (n := 4) hC tkX10_seeing hF (by decide) [] 200 ?_
  exact ⟨(c1), rfl, rfl, rfl⟩