/-! ===== the model, XVIII: what is asked ===== -/
set_option maxRecDepth 100000 in
set_option maxHeartbeats 400000 in
theorem M_mnow  (mm : Mm) (o : Int64)  : MetX iX11_now [xr 40 0] mm o (rto (xi (rd (hold mm 0) 40 0 45)) (hold mm 0) o) := by
  refine MetX.of 1 (by decide +kernel) rfl (Nat.le_of_ble_eq_true rfl) ⟨by decide, by decide⟩ ?_
  intro p l e s m args below meth c Q V D ad A hC hN hok hF
  refine wpx hC tkX11_now hF [] 200 ?_
  refine Wx.callV (x := iX11_now) (y := iX11_holds) (k := 40) (avs := [_]) (rest := []) hC hN tkX11_now rfl rfl kX11_holds rfl (M_holds _ _ _ rfl) ⟨rfl, rfl⟩ rfl (Nat.le_of_ble_eq_true rfl) (by exact nol rfl) ?_
  rintro r mm' o' ⟨rfl, rfl, rfl⟩
  refine wpx hC tkX11_now hF [] 200 ?_
  exact ⟨rfl, rfl, rfl⟩
set_option maxRecDepth 100000 in
set_option maxHeartbeats 400000 in
theorem M_mdata  (mm : Mm) (o : Int64)  : MetX iX11_data [xr 40 0] mm o (rto (xi (rd (hold mm 0) 40 0 58)) (hold mm 0) o) := by
  refine MetX.of 1 (by decide +kernel) rfl (Nat.le_of_ble_eq_true rfl) ⟨by decide, by decide⟩ ?_
  intro p l e s m args below meth c Q V D ad A hC hN hok hF
  refine wpx hC tkX11_data hF [] 200 ?_
  refine Wx.callV (x := iX11_data) (y := iX11_holds) (k := 40) (avs := [_]) (rest := []) hC hN tkX11_data rfl rfl kX11_holds rfl (M_holds _ _ _ rfl) ⟨rfl, rfl⟩ rfl (Nat.le_of_ble_eq_true rfl) (by exact nol rfl) ?_
  rintro r mm' o' ⟨rfl, rfl, rfl⟩
  refine wpx hC tkX11_data hF [] 200 ?_
  exact ⟨rfl, rfl, rfl⟩
noncomputable def mwtC (mm : Mm) : Int := cntT (fun t => 0 < rd mm 83 0 t) 24 0 0
set_option maxRecDepth 100000 in
set_option maxHeartbeats 400000 in
theorem M_mwaiting  (mm : Mm) (o : Int64)  : MetX iX11_waiting [xr 40 0] mm o (rto (xi (mwtC (hold mm 0))) (hold mm 0) o) := by
  refine MetX.of 1 (by decide +kernel) rfl (Nat.le_of_ble_eq_true rfl) ⟨by decide, by decide⟩ ?_
  intro p l e s m args below meth c Q V D ad A hC hN hok hF
  have loop : ∀ (n : Nat) (j z : Int), 0 ≤ j → j + n = 24 → cntT (fun t => 0 < rd (hold mm 0) 83 0 t) n j z = mwtC (hold mm 0) → Wx p l e (mrm iX11_waiting) s m args below meth c 0 0 Q V D ad A 3 10 [(0, xr 40 0), (1, xi z), (2, xi j)] [] (hold mm 0) o := by
    intro n
    induction n with
    | zero =>
      intro j z j0 hj he
      refine wpx hC tkX11_waiting hF [10] 200 ?_
      refine ⟨fun q => ⟨congrArg (fun z => some (xi z)) he, rfl, rfl⟩, fun q => ?_⟩
      rw [show wr 24 = 24 from rfl, wr_of (by omega) (by omega)] at q; omega
    | succ n ih =>
      intro j z j0 hj he
      refine wpx hC tkX11_waiting hF [10] 200 ?_
      refine ⟨fun q => ?_, fun q => ⟨⟨j0, by show _ < (24 : Int); omega⟩, fun q2 => ?_, fun q2 => ?_⟩⟩
      · rw [show wr 24 = 24 from rfl, wr_of (by omega) (by omega)] at q; omega
      · rw [wr_rd] at q2
        have h := ih (j + 1) z (by omega) (by omega) (by rw [← he]; exact congrArg (cntT _ n (j + 1)) (pif_f (p := 0 < rd (hold mm 0) 83 0 j) (by omega)).symm)
        rw [show z = z + 0 by omega] at h
        exact h
      · rw [wr_rd] at q2
        exact ih (j + 1) (z + 1) (by omega) (by omega) (by rw [← he]; exact congrArg (cntT _ n (j + 1)) (pif_t (p := 0 < rd (hold mm 0) 83 0 j) (by omega)).symm)
  refine wpx hC tkX11_waiting hF [10] 200 ?_
  refine Wx.callV (x := iX11_waiting) (y := iX11_holds) (k := 40) (avs := [_]) (rest := []) hC hN tkX11_waiting rfl rfl kX11_holds rfl (M_holds _ _ _ rfl) ⟨rfl, rfl⟩ rfl (Nat.le_of_ble_eq_true rfl) (by exact nol rfl) ?_
  rintro r mm' o' ⟨rfl, rfl, rfl⟩
  refine wpx hC tkX11_waiting hF [10] 200 ?_
  exact loop 24 0 0 (by decide) (by decide) rfl
noncomputable def mviR (mm : Mm) (a : Int) : Int := pif (ixC a (rd mm 40 0 25) = none) (rd (hold mm (cdX E0 (ixC a (rd mm 40 0 25)))) 72 0 a) (-1)
set_option maxRecDepth 100000 in
set_option maxHeartbeats 400000 in
theorem M_mvisits (a : Int) (mm : Mm) (o : Int64) (ha : wr a = a) (hI : IM mm) : MetX iX11_visits [xr 40 0, xi a] mm o (rto (xi (mviR mm a)) (hold mm (cdX E0 (ixC a (rd mm 40 0 25)))) o) := by
  refine MetX.of 1 (by decide +kernel) rfl (Nat.le_of_ble_eq_true rfl) ⟨by decide, by decide⟩ ?_
  intro p l e s m args below meth c Q V D ad A hC hN hok hF
  have k0 := hI.2.1.1
  have k1 := hI.2.1.2
  have hj : ∀ z, cdX E0 (ixC a (rd mm 40 0 25)) = z → Wx p l e (mrm iX11_visits) s m args below meth c 0 0 Q V D ad A 2 14 [(0, xr 40 0), (1, xi a)] [xi z, xr 40 0] mm o := by
    rintro z rfl
    refine Wx.callV (x := iX11_visits) (y := iX11_holds) (k := 40) (avs := [_]) (rest := []) hC hN tkX11_visits rfl rfl kX11_holds rfl (M_holdc _ _ _ _ (by decide)) ⟨rfl, rfl⟩ rfl (Nat.le_of_ble_eq_true rfl) (by exact nol rfl) ?_
    rintro r mm' o' ⟨rfl, rfl, rfl⟩
    refine wpx hC tkX11_visits hF [] 200 ?_
    refine ⟨fun q => ?_, fun q => ⟨congrArg (fun z => some (xi z)) (pif_f (yb q)).symm, rfl, rfl⟩⟩
    have hn := Classical.not_not.mp (nb q)
    obtain ⟨a0, a1⟩ := ix_of hn
    exact ⟨⟨a0, by show a < (24 : Int); omega⟩, congrArg (fun z => some (xi z)) (pif_t hn).symm, rfl, rfl⟩
  refine wpx hC tkX11_visits hF [14] 200 ?_
  refine Wx.callV (x := iX11_visits) (y := iX11_isTarget) (k := 40) (avs := [_]) (rest := [_]) hC hN tkX11_visits rfl rfl kX11_isTarget rfl (M_isTarget _ _ _ ha k0) ⟨rfl, rfl⟩ rfl (Nat.le_of_ble_eq_true rfl) (by exact nol rfl) ?_
  rintro r mm' o' ⟨rfl, rfl, rfl⟩
  refine wpx hC tkX11_visits hF [14] 200 ?_
  exact ⟨fun q => hj 1 (cdy_ix (fun h => nb q (by omega))), fun q => hj 0 (cdt_ix (by have := yb q; omega))⟩
noncomputable def msvR (mm : Mm) (a : Int) : Int := pif (ixC a (rd mm 40 0 30) = none) (bz (0 ≤ rd (hold mm (cdX E0 (ixC a (rd mm 40 0 30)))) 75 0 a)) 0
set_option maxRecDepth 100000 in
set_option maxHeartbeats 400000 in
theorem M_mserved (a : Int) (mm : Mm) (o : Int64) (ha : wr a = a) (hI : IM mm) : MetX iX11_served [xr 40 0, xi a] mm o (rto (xi (msvR mm a)) (hold mm (cdX E0 (ixC a (rd mm 40 0 30)))) o) := by
  refine MetX.of 2 (by decide +kernel) rfl (Nat.le_of_ble_eq_true rfl) ⟨by decide, by decide⟩ ?_
  intro p l e s m args below meth c Q V D ad A hC hN hok hF
  have k0 := hI.2.2.1.1
  have k1 := hI.2.2.1.2
  have hj : ∀ z, cdX E0 (ixC a (rd mm 40 0 30)) = z → Wx p l e (mrm iX11_served) s m args below meth c 0 0 Q V D ad A 2 21 [(0, xr 40 0), (1, xi a)] [xi z, xr 40 0] mm o := by
    rintro z rfl
    refine Wx.callV (x := iX11_served) (y := iX11_holds) (k := 40) (avs := [_]) (rest := []) hC hN tkX11_served rfl rfl kX11_holds rfl (M_holdc _ _ _ _ (by decide)) ⟨rfl, rfl⟩ rfl (Nat.le_of_ble_eq_true rfl) (by exact nol rfl) ?_
    rintro r mm' o' ⟨rfl, rfl, rfl⟩
    refine wpx hC tkX11_served hF [] 200 ?_
    refine ⟨fun q => ⟨Or.inl rfl, congrArg (fun z => some (xi z)) (pif_f (yb q)).symm, rfl, rfl⟩, fun q => ?_⟩
    have hn := Classical.not_not.mp (nb q)
    obtain ⟨a0, a1⟩ := ix_of hn
    refine ⟨⟨a0, by show a < (10 : Int); omega⟩, fun q2 => ⟨Or.inl rfl, congrArg (fun z => some (xi z)) ((pif_t hn).trans (bz_f ?_)).symm, rfl, rfl⟩, fun q2 => ⟨Or.inr rfl, congrArg (fun z => some (xi z)) ((pif_t hn).trans (bz_t ?_)).symm, rfl, rfl⟩⟩
    · rw [wr_rd] at q2; omega
    · rw [wr_rd] at q2; omega
  refine wpx hC tkX11_served hF [21] 200 ?_
  refine Wx.callV (x := iX11_served) (y := iX11_in) (k := 40) (avs := [_, _, _]) (rest := [_]) hC hN tkX11_served rfl rfl kX11_in rfl (M_in _ _ _ _ _ ha rfl (wr_of (by omega) (by omega))) ⟨rfl, rfl⟩ rfl (Nat.le_of_ble_eq_true rfl) (by exact nol rfl) ?_
  rintro r mm' o' ⟨rfl, rfl, rfl⟩
  refine wpx hC tkX11_served hF [21] 200 ?_
  exact ⟨fun q => hj 1 (cdy_ix (fun h => nb q (by omega))), fun q => hj 0 (cdt_ix (by have := yb q; omega))⟩
noncomputable def mslR (mm : Mm) (a z : Int) : Int := pif (ixC a 4 = none) (pif (z = 0) (rd (hold mm (cdX E0 (ixC a 4))) 76 0 a) (rd (hold mm (cdX E0 (ixC a 4))) 77 0 a)) (-1)
set_option maxRecDepth 100000 in
set_option maxHeartbeats 400000 in
theorem M_mslots (a z9 : Int) (mm : Mm) (o : Int64) (ha : wr a = a) (hz : wr z9 = z9) : MetX iX11_slots [xr 40 0, xi a, xi z9] mm o (rto (xi (mslR mm a z9)) (hold mm (cdX E0 (ixC a 4))) o) := by
  refine MetX.of 1 (by decide +kernel) rfl (Nat.le_of_ble_eq_true rfl) ⟨by decide, by decide⟩ ?_
  intro p l e s m args below meth c Q V D ad A hC hN hok hF
  have hj : ∀ z, cdX E0 (ixC a 4) = z → Wx p l e (mrm iX11_slots) s m args below meth c 0 0 Q V D ad A 3 14 [(0, xr 40 0), (1, xi a), (2, xi z9)] [xi z, xr 40 0] mm o := by
    rintro z rfl
    refine Wx.callV (x := iX11_slots) (y := iX11_holds) (k := 40) (avs := [_]) (rest := []) hC hN tkX11_slots rfl rfl kX11_holds rfl (M_holdc _ _ _ _ (by decide)) ⟨rfl, rfl⟩ rfl (Nat.le_of_ble_eq_true rfl) (by exact nol rfl) ?_
    rintro r mm' o' ⟨rfl, rfl, rfl⟩
    refine wpx hC tkX11_slots hF [] 200 ?_
    refine ⟨fun q => ?_, fun q => ⟨congrArg (fun z => some (xi z)) (pif_f (yb q)).symm, rfl, rfl⟩⟩
    have hn := Classical.not_not.mp (nb q)
    obtain ⟨a0, a1⟩ := ix_of hn
    refine ⟨fun q2 => ⟨⟨a0, a1⟩, congrArg (fun z => some (xi z)) ((pif_t hn).trans (pif_t ?_)).symm, rfl, rfl⟩, fun q2 => ⟨⟨a0, a1⟩, congrArg (fun z => some (xi z)) ((pif_t hn).trans (pif_f ?_)).symm, rfl, rfl⟩⟩
    · rw [hz] at q2; exact q2
    · rw [hz] at q2; exact q2
  refine wpx hC tkX11_slots hF [14] 200 ?_
  refine Wx.callV (x := iX11_slots) (y := iX11_isGroup) (k := 40) (avs := [_]) (rest := [_]) hC hN tkX11_slots rfl rfl kX11_isGroup rfl (M_isGroup _ _ _ ha) ⟨rfl, rfl⟩ rfl (Nat.le_of_ble_eq_true rfl) (by exact nol rfl) ?_
  rintro r mm' o' ⟨rfl, rfl, rfl⟩
  refine wpx hC tkX11_slots hF [14] 200 ?_
  exact ⟨fun q => hj 1 (cdy_ix (fun h => nb q (by omega))), fun q => hj 0 (cdt_ix (by have := yb q; omega))⟩
noncomputable def mloR (mm : Mm) (a z : Int) : Int := pif (ixC a 3 = none) (pif (z = 0) (rd (hold mm (cdX E0 (ixC a 3))) 79 0 a) (rd (hold mm (cdX E0 (ixC a 3))) 78 0 a)) (-1)
set_option maxRecDepth 100000 in
set_option maxHeartbeats 400000 in
theorem M_mlost (a z9 : Int) (mm : Mm) (o : Int64) (ha : wr a = a) (hz : wr z9 = z9) : MetX iX11_lost [xr 40 0, xi a, xi z9] mm o (rto (xi (mloR mm a z9)) (hold mm (cdX E0 (ixC a 3))) o) := by
  refine MetX.of 1 (by decide +kernel) rfl (Nat.le_of_ble_eq_true rfl) ⟨by decide, by decide⟩ ?_
  intro p l e s m args below meth c Q V D ad A hC hN hok hF
  have hj : ∀ z, cdX E0 (ixC a 3) = z → Wx p l e (mrm iX11_lost) s m args below meth c 0 0 Q V D ad A 3 14 [(0, xr 40 0), (1, xi a), (2, xi z9)] [xi z, xr 40 0] mm o := by
    rintro z rfl
    refine Wx.callV (x := iX11_lost) (y := iX11_holds) (k := 40) (avs := [_]) (rest := []) hC hN tkX11_lost rfl rfl kX11_holds rfl (M_holdc _ _ _ _ (by decide)) ⟨rfl, rfl⟩ rfl (Nat.le_of_ble_eq_true rfl) (by exact nol rfl) ?_
    rintro r mm' o' ⟨rfl, rfl, rfl⟩
    refine wpx hC tkX11_lost hF [] 200 ?_
    refine ⟨fun q => ?_, fun q => ⟨congrArg (fun z => some (xi z)) (pif_f (yb q)).symm, rfl, rfl⟩⟩
    have hn := Classical.not_not.mp (nb q)
    obtain ⟨a0, a1⟩ := ix_of hn
    refine ⟨fun q2 => ⟨⟨a0, a1⟩, congrArg (fun z => some (xi z)) ((pif_t hn).trans (pif_t ?_)).symm, rfl, rfl⟩, fun q2 => ⟨⟨a0, a1⟩, congrArg (fun z => some (xi z)) ((pif_t hn).trans (pif_f ?_)).symm, rfl, rfl⟩⟩
    · rw [hz] at q2; exact q2
    · rw [hz] at q2; exact q2
  refine wpx hC tkX11_lost hF [14] 200 ?_
  refine Wx.callV (x := iX11_lost) (y := iX11_isSite) (k := 40) (avs := [_]) (rest := [_]) hC hN tkX11_lost rfl rfl kX11_isSite rfl (M_isSite _ _ _ ha) ⟨rfl, rfl⟩ rfl (Nat.le_of_ble_eq_true rfl) (by exact nol rfl) ?_
  rintro r mm' o' ⟨rfl, rfl, rfl⟩
  refine wpx hC tkX11_lost hF [14] 200 ?_
  exact ⟨fun q => hj 1 (cdy_ix (fun h => nb q (by omega))), fun q => hj 0 (cdt_ix (by have := yb q; omega))⟩
noncomputable def mgnV (m : Mm) (a b : Int) : Int := pif (b = 0) (pif (0 ≤ rd m 80 0 a) (pif (rd m 80 0 a ≤ 23) 1 2) 0) (pif (b = 1) (pif (rd m 80 0 a ≤ 23) (rd m 80 0 a) (rd m 80 0 a - 24)) (pif (0 ≤ rd m 80 0 a) (rd m 81 0 a) 0))
noncomputable def mgnR (mm : Mm) (a b : Int) : Int := pif (ck (ixC a 3) (rgC b 0 2) = none) (mgnV (hold mm (cdX E0 (ck (ixC a 3) (rgC b 0 2)))) a b) (-1)
set_option maxRecDepth 100000 in
set_option maxHeartbeats 400000 in
theorem M_mgoingOn (a b : Int) (mm : Mm) (o : Int64) (ha : wr a = a) (hb : wr b = b) : MetX iX11_goingOn [xr 40 0, xi a, xi b] mm o (rto (xi (mgnR mm a b)) (hold mm (cdX E0 (ck (ixC a 3) (rgC b 0 2)))) o) := by
  refine MetX.of 1 (by decide +kernel) rfl (Nat.le_of_ble_eq_true rfl) ⟨by decide, by decide⟩ ?_
  intro p l e s m args below meth c Q V D ad A hC hN hok hF
  have hj : ∀ z, cdX E0 (ck (ixC a 3) (rgC b 0 2)) = z → Wx p l e (mrm iX11_goingOn) s m args below meth c 0 0 Q V D ad A 4 28 [(0, xr 40 0), (1, xi a), (2, xi b)] [xi z, xr 40 0] mm o := by
    rintro z rfl
    refine Wx.callV (x := iX11_goingOn) (y := iX11_holds) (k := 40) (avs := [_]) (rest := []) hC hN tkX11_goingOn rfl rfl kX11_holds rfl (M_holdc _ _ _ _ (by decide)) ⟨rfl, rfl⟩ rfl (Nat.le_of_ble_eq_true rfl) (by exact nol rfl) ?_
    rintro r mm' o' ⟨rfl, rfl, rfl⟩
    refine wpx hC tkX11_goingOn hF [] 200 ?_
    refine ⟨fun q => ?_, fun q => ⟨congrArg (fun z => some (xi z)) (pif_f (yb q)).symm, rfl, rfl⟩⟩
    have hn := Classical.not_not.mp (nb q)
    have a2 := ix_of (ck_of hn).1
    have eR : mgnR mm a b = mgnV (hold mm (cdX E0 (ck (ixC a 3) (rgC b 0 2)))) a b := pif_t hn
    rw [eR]
    generalize hold mm (cdX E0 (ck (ixC a 3) (rgC b 0 2))) = m9
    unfold mgnV
    have hw := wr_rd m9 80 0 a
    refine ⟨a2, fun q2 => ⟨fun q3 => ⟨fun q4 => ⟨a2, congrArg (fun z => some (xi z)) ?_, rfl, rfl⟩, fun q4 => ⟨congrArg (fun z => some (xi z)) ?_, rfl, rfl⟩⟩, fun q3 => ⟨fun q4 => ⟨congrArg (fun z => some (xi z)) ?_, rfl, rfl⟩, fun q4 => ⟨congrArg (fun z => some (xi z)) ?_, rfl, rfl⟩⟩⟩, fun q2 => ⟨fun q3 => ⟨fun q4 => ⟨congrArg (fun z => some (xi z)) ?_, rfl, rfl⟩, fun q4 => ⟨congrArg (fun z => some (xi z)) ?_, rfl, rfl⟩⟩, fun q3 => ⟨congrArg (fun z => some (xi z)) ?_, rfl, rfl⟩⟩⟩
    · rw [hb] at q2 q3; rw [wr_1] at q3; rw [hw] at q4; rw [pif_f q2, pif_f q3, pif_t q4]
    · rw [hb] at q2 q3; rw [wr_1] at q3; rw [hw] at q4; rw [pif_f q2, pif_f q3, pif_f q4]
    · rw [hb] at q2 q3; rw [wr_1] at q3; rw [hw] at q4; rw [pif_f q2, pif_t q3]; exact (pif_t q4).symm
    · rw [hb] at q2 q3; rw [wr_1] at q3; rw [hw] at q4; rw [pif_f q2, pif_t q3]; exact (pif_f q4).symm
    · rw [hb] at q2; rw [hw] at q3 q4; rw [pif_t q2, pif_t q3]; exact (pif_t q4).symm
    · rw [hb] at q2; rw [hw] at q3 q4; rw [pif_t q2, pif_t q3]; exact (pif_f q4).symm
    · rw [hb] at q2; rw [hw] at q3; rw [pif_t q2, pif_f q3]
  refine wpx hC tkX11_goingOn hF [28] 200 ?_
  refine Wx.callV (x := iX11_goingOn) (y := iX11_isSite) (k := 40) (avs := [_]) (rest := [_]) hC hN tkX11_goingOn rfl rfl kX11_isSite rfl (M_isSite _ _ _ ha) ⟨rfl, rfl⟩ rfl (Nat.le_of_ble_eq_true rfl) (by exact nol rfl) ?_
  rintro r mm' o' ⟨rfl, rfl, rfl⟩
  refine wpx hC tkX11_goingOn hF [28] 200 ?_
  refine ⟨fun q => ?_, fun q => hj 1 (cdx_ix (fun h => nb q (by omega)))⟩
  have qa : 0 ≤ a ∧ a < 3 := by have := yb q; omega
  refine Wx.callV (x := iX11_goingOn) (y := iX11_in) (k := 40) (avs := [_, _, _]) (rest := [_]) hC hN tkX11_goingOn rfl rfl kX11_in rfl (M_in _ _ _ _ _ hb rfl rfl) ⟨rfl, rfl⟩ rfl (Nat.le_of_ble_eq_true rfl) (by exact nol rfl) ?_
  rintro r mm' o' ⟨rfl, rfl, rfl⟩
  refine wpx hC tkX11_goingOn hF [28] 200 ?_
  exact ⟨fun q => hj 2 (by rw [ck_ln (ix_t qa)]; exact cdy_rg (nb q)), fun q => hj 0 (by rw [ck_ln (ix_t qa)]; exact cdt_rg (yb q))⟩
