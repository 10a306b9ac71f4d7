/-! ===== Plan ===== -/
theorem jrem24 {t : Int} (t0 : 0 ≤ t) (t1 : t < 2147483648) : jrem t 24 = t % 24 := jrem_of t0 t1 (by decide) (by decide)
theorem jdiv24 {t : Int} (t0 : 0 ≤ t) (t1 : t < 2147483648) : jdiv t 24 = t / 24 := jdiv_of t0 t1 (by decide) (by decide)
def moonC (mm : Mm) (n : Int) : Int := 100 - jdiv (jabs (15 - jrem (n + rd mm 5 0 5) 30) * 100) 15
set_option maxRecDepth 100000 in
set_option maxHeartbeats 400000 in
theorem M_moonLight (n : Int) (mm : Mm) (o : Int64)  : MetX iX5_moonLight [xr 5 0, xi n] mm o (rto (xi (moonC mm n)) mm o) := by
  refine MetX.of 1 (by decide +kernel) rfl (Nat.le_of_ble_eq_true rfl) ⟨by decide, by decide⟩ ?_
  intro p l e s m args below meth c Q V D ad A hC hN hok hF
  refine wpx hC tkX5_moonLight hF [] 200 ?_
  exact ⟨by decide, by decide, rfl, rfl, rfl⟩
def farC (mm : Mm) (k : Nat) (a n : Int) : Prop := 60 ≤ wr (jmax (angC (jrem (12 * n) 360) (rd mm k a 1)) (jabs (rd mm k a 2)))
set_option maxRecDepth 100000 in
set_option maxHeartbeats 400000 in
theorem M_isFar_18 (a n : Int) (mm : Mm) (o : Int64)  : MetX iX5_isFarFromMoon [xr 5 0, xr 18 a, xi n] mm o (rto (xi (bz (farC mm 18 a n))) mm o) := by
  refine MetX.of 2 (by decide +kernel) rfl (Nat.le_of_ble_eq_true rfl) ⟨by decide, by decide⟩ ?_
  intro p l e s m args below meth c Q V D ad A hC hN hok hF
  refine wpx hC tkX5_isFarFromMoon hF [] 200 ?_
  refine ⟨by decide, ?_⟩
  refine Wx.callSN (x := iX5_isFarFromMoon) (y := iX10_angle) (avs := [_, _]) (rest := []) hC hN tkX5_isFarFromMoon rfl hN.1 kX10_angle rfl (M_angle _ _ _ _) rfl (Nat.le_of_ble_eq_true rfl) (by exact nol rfl) ?_
  rintro r mm' o' ⟨rfl, rfl, rfl⟩
  refine wpx hC tkX5_isFarFromMoon hF [] 200 ?_
  refine ⟨fun q => ?_, fun q => ?_⟩
  · refine ⟨Or.inl rfl, ?_, rfl, rfl⟩
    rw [show wr 60 = 60 from rfl] at q
    rw [bz_f (show ¬ farC mm 18 a n by unfold farC; omega)]
  · refine ⟨Or.inr rfl, ?_, rfl, rfl⟩
    rw [show wr 60 = 60 from rfl] at q
    rw [bz_t (show farC mm 18 a n by unfold farC; omega)]
set_option maxRecDepth 100000 in
set_option maxHeartbeats 400000 in
theorem M_isFar_19 (a n : Int) (mm : Mm) (o : Int64)  : MetX iX5_isFarFromMoon [xr 5 0, xr 19 a, xi n] mm o (rto (xi (bz (farC mm 19 a n))) mm o) := by
  refine MetX.of 2 (by decide +kernel) rfl (Nat.le_of_ble_eq_true rfl) ⟨by decide, by decide⟩ ?_
  intro p l e s m args below meth c Q V D ad A hC hN hok hF
  refine wpx hC tkX5_isFarFromMoon hF [] 200 ?_
  refine ⟨by decide, ?_⟩
  refine Wx.callSN (x := iX5_isFarFromMoon) (y := iX10_angle) (avs := [_, _]) (rest := []) hC hN tkX5_isFarFromMoon rfl hN.1 kX10_angle rfl (M_angle _ _ _ _) rfl (Nat.le_of_ble_eq_true rfl) (by exact nol rfl) ?_
  rintro r mm' o' ⟨rfl, rfl, rfl⟩
  refine wpx hC tkX5_isFarFromMoon hF [] 200 ?_
  refine ⟨fun q => ?_, fun q => ?_⟩
  · refine ⟨Or.inl rfl, ?_, rfl, rfl⟩
    rw [show wr 60 = 60 from rfl] at q
    rw [bz_f (show ¬ farC mm 19 a n by unfold farC; omega)]
  · refine ⟨Or.inr rfl, ?_, rfl, rfl⟩
    rw [show wr 60 = 60 from rfl] at q
    rw [bz_t (show farC mm 19 a n by unfold farC; omega)]
theorem M_isFarFromMoon (k : Nat) (a n : Int) (mm : Mm) (o : Int64) (hk : k = 18 ∨ k = 19) : MetX iX5_isFarFromMoon [xr 5 0, xr k a, xi n] mm o (rto (xi (bz (farC mm k a n))) mm o) := by
  rcases hk with rfl | rfl
  · exact M_isFar_18 a n mm o
  · exact M_isFar_19 a n mm o
theorem wr_seenC (mm : Mm) (i t : Int) : wr (seenC mm i t) = seenC mm i t := by
  unfold seenC; split
  · exact wr_rd _ _ _ _
  · rfl
theorem wr_newC (mm : Mm) (i ins : Int) (n : Nat) (hn : n ≤ 30) : wr (newC mm i ins n) = newC mm i ins n := by
  have h := fdown_range (fun t => ¬ rd mm 16 i (ins * 30 + t) = 0) n
  exact wr_of (by unfold newC; omega) (by unfold newC; omega)
theorem highC_range (mm : Mm) (k : Nat) (a i t most : Int) (t0 : 0 ≤ t) (m0 : 0 ≤ most) : 0 ≤ highC mm k a i t most ∧ highC mm k a i t most ≤ 24 := by
  have h := runT_range (highP mm k a i t) (min most (24 - t % 24)).toNat 0
  unfold highC
  omega
def suitC (mm : Mm) (k : Nat) (a i t n : Int) : Prop := t % 24 + n ≤ 24 ∧ rd mm 14 i (t / 24) = rd mm k a 4 ∧ ¬ seenC mm i t = 0 ∧ seenC mm i t ≤ rd mm k a 7 ∧ ¬ newC mm i (rd mm k a 4) (t / 24 + 1).toNat = -1 ∧ t / 24 - newC mm i (rd mm k a 4) (t / 24 + 1).toNat ≤ 6 ∧ (wr (moonC mm (t / 24)) ≤ rd mm k a 6 ∨ farC mm k a (t / 24)) ∧ highC mm k a i t n = n
set_option maxRecDepth 100000 in
set_option maxHeartbeats 400000 in
theorem M_suits_18 (a i t n : Int) (mm : Mm) (o : Int64) (t0 : 0 ≤ t) (t1 : t < 720) (n0 : 0 ≤ n) (n1 : n ≤ 24) (i0 : 0 ≤ rd mm 18 a 4) (i1 : rd mm 18 a 4 < 3) : MetX iX5_suits [xr 5 0, xr 18 a, xr 11 i, xi t, xi n] mm o (rto (xi (bz (suitC mm 18 a i t n))) mm o) := by
  refine MetX.of 2 (by decide +kernel) rfl (Nat.le_of_ble_eq_true rfl) ⟨by decide, by decide⟩ ?_
  intro p l e s m args below meth c Q V D ad A hC hN hok hF
  refine wpx hC tkX5_suits hF [] 200 ?_
  have ed : jdiv t 24 = t / 24 := jdiv24 t0 (by omega)
  have er : jrem t 24 = t % 24 := jrem24 t0 (by omega)
  have en : ((t / 24 + 1).toNat : Int) = t / 24 + 1 := by omega
  have en30 : (t / 24 + 1).toNat ≤ 30 := by omega
  refine ⟨by decide, by decide, ?_⟩
  rw [ed, er]
  refine ⟨fun q => ?_, fun q => ?_⟩
  · refine ⟨Or.inl rfl, ?_, rfl, rfl⟩
    rw [show wr 24 = 24 from rfl, wr_of (by omega) (by omega)] at q
    rw [bz_f (fun h => by have := h.1; omega)]
  rw [show wr 24 = 24 from rfl, wr_of (by omega) (by omega)] at q
  refine ⟨⟨by omega, by show _ < (30 : Int); omega⟩, fun q2 => ?_, fun q2 => ?_⟩
  rotate_left
  · refine ⟨Or.inl rfl, ?_, rfl, rfl⟩
    rw [wr_rd, wr_rd] at q2
    rw [bz_f (fun h => q2 h.2.1)]
  rw [wr_rd, wr_rd] at q2
  refine Wx.callV (x := iX5_suits) (y := iX7_seeingAt) (k := 11) (avs := [_]) (rest := []) hC hN tkX5_suits rfl rfl kX7_seeingAt rfl (M_seeingAt _ _ _ _ t0 t1) ⟨rfl, rfl⟩ rfl (Nat.le_of_ble_eq_true rfl) (by exact nol rfl) ?_
  rintro r mm' o' ⟨rfl, rfl, rfl⟩
  refine wpx hC tkX5_suits hF [] 200 ?_
  refine ⟨fun q3 => ?_, fun q3 => ?_⟩
  · refine ⟨Or.inl rfl, ?_, rfl, rfl⟩
    rw [wr_seenC] at q3
    rw [bz_f (fun h => h.2.2.1 q3)]
  rw [wr_seenC] at q3
  refine ⟨fun q4 => ?_, fun q4 => ?_⟩
  rotate_left
  · refine ⟨Or.inl rfl, ?_, rfl, rfl⟩
    rw [wr_seenC, wr_rd] at q4
    rw [bz_f (fun h => q4 h.2.2.2.1)]
  rw [wr_seenC, wr_rd] at q4
  refine Wx.callV (x := iX5_suits) (y := iX7_newestCalibration) (k := 11) (avs := [_, _]) (rest := []) hC hN tkX5_suits rfl rfl kX7_newestCalibration rfl (M_newestCalibration _ _ _ (t / 24 + 1).toNat _ _ (by omega) i0 i1 en30) ⟨rfl, rfl⟩ rfl (Nat.le_of_ble_eq_true rfl) (by exact nol rfl) ?_
  rintro r mm' o' ⟨rfl, rfl, rfl⟩
  refine wpx hC tkX5_suits hF [] 200 ?_
  refine ⟨fun q5 => ?_, fun q5 => ?_⟩
  · refine ⟨Or.inl rfl, ?_, rfl, rfl⟩
    rw [wr_newC _ _ _ _ en30, show wr (-1) = -1 from rfl] at q5
    rw [bz_f (fun h => h.2.2.2.2.1 q5)]
  rw [wr_newC _ _ _ _ en30, show wr (-1) = -1 from rfl] at q5
  have hnr := fdown_range (fun t => ¬ rd mm 16 i (rd mm 18 a 4 * 30 + t) = 0) (t / 24 + 1).toNat
  have hnr2 : -1 ≤ newC mm i (rd mm 18 a 4) (t / 24 + 1).toNat ∧ newC mm i (rd mm 18 a 4) (t / 24 + 1).toNat < t / 24 + 1 := ⟨hnr.1, by have := hnr.2; unfold newC; omega⟩
  refine ⟨fun q6 => ?_, fun q6 => ?_⟩
  rotate_left
  · refine ⟨Or.inl rfl, ?_, rfl, rfl⟩
    rw [show wr 6 = 6 from rfl, wr_of (by omega) (by omega)] at q6
    rw [bz_f (fun h => q6 h.2.2.2.2.2.1)]
  rw [show wr 6 = 6 from rfl, wr_of (by omega) (by omega)] at q6
  refine Wx.callV (x := iX5_suits) (y := iX5_moonLight) (k := 5) (avs := [_]) (rest := []) hC hN tkX5_suits rfl rfl kX5_moonLight rfl (M_moonLight _ _ _) ⟨rfl, rfl⟩ rfl (Nat.le_of_ble_eq_true rfl) (by exact nol rfl) ?_
  rintro r mm' o' ⟨rfl, rfl, rfl⟩
  refine wpx hC tkX5_suits hF [110] 200 ?_
  have hh := highC_range mm 18 a i t n t0 n0
  have hj : (wr (moonC mm (t / 24)) ≤ rd mm 18 a 6 ∨ farC mm 18 a (t / 24)) → Wx p l e (mrm iX5_suits) s m args below meth c 0 0 Q V D ad A 8 110 [(0, xr 5 0), (1, xr 18 a), (2, xr 11 i), (3, xi t), (4, xi n), (5, xi (t / 24)), (6, xi (seenC mm i t)), (7, xi (newC mm i (rd mm 18 a 4) (t / 24 + 1).toNat))] [] mm o := by
    intro hd
    refine wpx hC tkX5_suits hF [] 200 ?_
    refine Wx.callV (x := iX5_suits) (y := iX7_highSlots) (k := 11) (avs := [_, _, _]) (rest := []) hC hN tkX5_suits rfl rfl kX7_highSlots rfl (M_highSlots 18 _ _ _ _ _ _ (by decide) t0 t1 n0 n1) ⟨rfl, rfl⟩ rfl (Nat.le_of_ble_eq_true rfl) (by exact nol rfl) ?_
    rintro r mm' o' ⟨rfl, rfl, rfl⟩
    refine wpx hC tkX5_suits hF [] 200 ?_
    refine ⟨fun q8 => ⟨Or.inl rfl, ?_, rfl, rfl⟩, fun q8 => ⟨Or.inr rfl, ?_, rfl, rfl⟩⟩
    · rw [wr_of (z := highC mm 18 a i t n) (by omega) (by omega), wr_of (z := n) (by omega) (by omega)] at q8
      rw [bz_f (fun h => q8 h.2.2.2.2.2.2.2)]
    · rw [wr_of (z := highC mm 18 a i t n) (by omega) (by omega), wr_of (z := n) (by omega) (by omega)] at q8
      rw [bz_t ⟨by omega, q2, q3, q4, q5, q6, hd, q8⟩]
  refine ⟨fun q7 => ?_, fun q7 => ?_⟩
  · rw [wr_rd] at q7
    exact hj (Or.inl q7)
  rw [wr_rd] at q7
  refine Wx.callV (x := iX5_suits) (y := iX5_isFarFromMoon) (k := 5) (avs := [_, _]) (rest := []) hC hN tkX5_suits rfl rfl kX5_isFarFromMoon rfl (M_isFarFromMoon 18 _ _ _ _ (by decide)) ⟨rfl, rfl⟩ rfl (Nat.le_of_ble_eq_true rfl) (by exact nol rfl) ?_
  rintro r mm' o' ⟨rfl, rfl, rfl⟩
  refine wpx hC tkX5_suits hF [110] 200 ?_
  refine ⟨fun q8 => ⟨Or.inl rfl, ?_, rfl, rfl⟩, fun q8 => ?_⟩
  · rw [wr_bz] at q8
    rw [bz_f (fun h => (h.2.2.2.2.2.2.1.elim q7 (bz_0.mp q8)))]
  · rw [wr_bz] at q8
    exact hj (Or.inr (Classical.not_not.mp (fun z => q8 (bz_0.mpr z))))
set_option maxRecDepth 100000 in
set_option maxHeartbeats 400000 in
theorem M_suits_19 (a i t n : Int) (mm : Mm) (o : Int64) (t0 : 0 ≤ t) (t1 : t < 720) (n0 : 0 ≤ n) (n1 : n ≤ 24) (i0 : 0 ≤ rd mm 19 a 4) (i1 : rd mm 19 a 4 < 3) : MetX iX5_suits [xr 5 0, xr 19 a, xr 11 i, xi t, xi n] mm o (rto (xi (bz (suitC mm 19 a i t n))) mm o) := by
  refine MetX.of 2 (by decide +kernel) rfl (Nat.le_of_ble_eq_true rfl) ⟨by decide, by decide⟩ ?_
  intro p l e s m args below meth c Q V D ad A hC hN hok hF
  refine wpx hC tkX5_suits hF [] 200 ?_
  have ed : jdiv t 24 = t / 24 := jdiv24 t0 (by omega)
  have er : jrem t 24 = t % 24 := jrem24 t0 (by omega)
  have en : ((t / 24 + 1).toNat : Int) = t / 24 + 1 := by omega
  have en30 : (t / 24 + 1).toNat ≤ 30 := by omega
  refine ⟨by decide, by decide, ?_⟩
  rw [ed, er]
  refine ⟨fun q => ?_, fun q => ?_⟩
  · refine ⟨Or.inl rfl, ?_, rfl, rfl⟩
    rw [show wr 24 = 24 from rfl, wr_of (by omega) (by omega)] at q
    rw [bz_f (fun h => by have := h.1; omega)]
  rw [show wr 24 = 24 from rfl, wr_of (by omega) (by omega)] at q
  refine ⟨⟨by omega, by show _ < (30 : Int); omega⟩, fun q2 => ?_, fun q2 => ?_⟩
  rotate_left
  · refine ⟨Or.inl rfl, ?_, rfl, rfl⟩
    rw [wr_rd, wr_rd] at q2
    rw [bz_f (fun h => q2 h.2.1)]
  rw [wr_rd, wr_rd] at q2
  refine Wx.callV (x := iX5_suits) (y := iX7_seeingAt) (k := 11) (avs := [_]) (rest := []) hC hN tkX5_suits rfl rfl kX7_seeingAt rfl (M_seeingAt _ _ _ _ t0 t1) ⟨rfl, rfl⟩ rfl (Nat.le_of_ble_eq_true rfl) (by exact nol rfl) ?_
  rintro r mm' o' ⟨rfl, rfl, rfl⟩
  refine wpx hC tkX5_suits hF [] 200 ?_
  refine ⟨fun q3 => ?_, fun q3 => ?_⟩
  · refine ⟨Or.inl rfl, ?_, rfl, rfl⟩
    rw [wr_seenC] at q3
    rw [bz_f (fun h => h.2.2.1 q3)]
  rw [wr_seenC] at q3
  refine ⟨fun q4 => ?_, fun q4 => ?_⟩
  rotate_left
  · refine ⟨Or.inl rfl, ?_, rfl, rfl⟩
    rw [wr_seenC, wr_rd] at q4
    rw [bz_f (fun h => q4 h.2.2.2.1)]
  rw [wr_seenC, wr_rd] at q4
  refine Wx.callV (x := iX5_suits) (y := iX7_newestCalibration) (k := 11) (avs := [_, _]) (rest := []) hC hN tkX5_suits rfl rfl kX7_newestCalibration rfl (M_newestCalibration _ _ _ (t / 24 + 1).toNat _ _ (by omega) i0 i1 en30) ⟨rfl, rfl⟩ rfl (Nat.le_of_ble_eq_true rfl) (by exact nol rfl) ?_
  rintro r mm' o' ⟨rfl, rfl, rfl⟩
  refine wpx hC tkX5_suits hF [] 200 ?_
  refine ⟨fun q5 => ?_, fun q5 => ?_⟩
  · refine ⟨Or.inl rfl, ?_, rfl, rfl⟩
    rw [wr_newC _ _ _ _ en30, show wr (-1) = -1 from rfl] at q5
    rw [bz_f (fun h => h.2.2.2.2.1 q5)]
  rw [wr_newC _ _ _ _ en30, show wr (-1) = -1 from rfl] at q5
  have hnr := fdown_range (fun t => ¬ rd mm 16 i (rd mm 19 a 4 * 30 + t) = 0) (t / 24 + 1).toNat
  have hnr2 : -1 ≤ newC mm i (rd mm 19 a 4) (t / 24 + 1).toNat ∧ newC mm i (rd mm 19 a 4) (t / 24 + 1).toNat < t / 24 + 1 := ⟨hnr.1, by have := hnr.2; unfold newC; omega⟩
  refine ⟨fun q6 => ?_, fun q6 => ?_⟩
  rotate_left
  · refine ⟨Or.inl rfl, ?_, rfl, rfl⟩
    rw [show wr 6 = 6 from rfl, wr_of (by omega) (by omega)] at q6
    rw [bz_f (fun h => q6 h.2.2.2.2.2.1)]
  rw [show wr 6 = 6 from rfl, wr_of (by omega) (by omega)] at q6
  refine Wx.callV (x := iX5_suits) (y := iX5_moonLight) (k := 5) (avs := [_]) (rest := []) hC hN tkX5_suits rfl rfl kX5_moonLight rfl (M_moonLight _ _ _) ⟨rfl, rfl⟩ rfl (Nat.le_of_ble_eq_true rfl) (by exact nol rfl) ?_
  rintro r mm' o' ⟨rfl, rfl, rfl⟩
  refine wpx hC tkX5_suits hF [110] 200 ?_
  have hh := highC_range mm 19 a i t n t0 n0
  have hj : (wr (moonC mm (t / 24)) ≤ rd mm 19 a 6 ∨ farC mm 19 a (t / 24)) → Wx p l e (mrm iX5_suits) s m args below meth c 0 0 Q V D ad A 8 110 [(0, xr 5 0), (1, xr 19 a), (2, xr 11 i), (3, xi t), (4, xi n), (5, xi (t / 24)), (6, xi (seenC mm i t)), (7, xi (newC mm i (rd mm 19 a 4) (t / 24 + 1).toNat))] [] mm o := by
    intro hd
    refine wpx hC tkX5_suits hF [] 200 ?_
    refine Wx.callV (x := iX5_suits) (y := iX7_highSlots) (k := 11) (avs := [_, _, _]) (rest := []) hC hN tkX5_suits rfl rfl kX7_highSlots rfl (M_highSlots 19 _ _ _ _ _ _ (by decide) t0 t1 n0 n1) ⟨rfl, rfl⟩ rfl (Nat.le_of_ble_eq_true rfl) (by exact nol rfl) ?_
    rintro r mm' o' ⟨rfl, rfl, rfl⟩
    refine wpx hC tkX5_suits hF [] 200 ?_
    refine ⟨fun q8 => ⟨Or.inl rfl, ?_, rfl, rfl⟩, fun q8 => ⟨Or.inr rfl, ?_, rfl, rfl⟩⟩
    · rw [wr_of (z := highC mm 19 a i t n) (by omega) (by omega), wr_of (z := n) (by omega) (by omega)] at q8
      rw [bz_f (fun h => q8 h.2.2.2.2.2.2.2)]
    · rw [wr_of (z := highC mm 19 a i t n) (by omega) (by omega), wr_of (z := n) (by omega) (by omega)] at q8
      rw [bz_t ⟨by omega, q2, q3, q4, q5, q6, hd, q8⟩]
  refine ⟨fun q7 => ?_, fun q7 => ?_⟩
  · rw [wr_rd] at q7
    exact hj (Or.inl q7)
  rw [wr_rd] at q7
  refine Wx.callV (x := iX5_suits) (y := iX5_isFarFromMoon) (k := 5) (avs := [_, _]) (rest := []) hC hN tkX5_suits rfl rfl kX5_isFarFromMoon rfl (M_isFarFromMoon 19 _ _ _ _ (by decide)) ⟨rfl, rfl⟩ rfl (Nat.le_of_ble_eq_true rfl) (by exact nol rfl) ?_
  rintro r mm' o' ⟨rfl, rfl, rfl⟩
  refine wpx hC tkX5_suits hF [110] 200 ?_
  refine ⟨fun q8 => ⟨Or.inl rfl, ?_, rfl, rfl⟩, fun q8 => ?_⟩
  · rw [wr_bz] at q8
    rw [bz_f (fun h => (h.2.2.2.2.2.2.1.elim q7 (bz_0.mp q8)))]
  · rw [wr_bz] at q8
    exact hj (Or.inr (Classical.not_not.mp (fun z => q8 (bz_0.mpr z))))
theorem M_suits (k : Nat) (a i t n : Int) (mm : Mm) (o : Int64) (hk : k = 18 ∨ k = 19) (t0 : 0 ≤ t) (t1 : t < 720) (n0 : 0 ≤ n) (n1 : n ≤ 24) (i0 : 0 ≤ rd mm k a 4) (i1 : rd mm k a 4 < 3) : MetX iX5_suits [xr 5 0, xr k a, xr 11 i, xi t, xi n] mm o (rto (xi (bz (suitC mm k a i t n))) mm o) := by
  rcases hk with rfl | rfl
  · exact M_suits_18 a i t n mm o t0 t1 n0 n1 i0 i1
  · exact M_suits_19 a i t n mm o t0 t1 n0 n1 i0 i1
