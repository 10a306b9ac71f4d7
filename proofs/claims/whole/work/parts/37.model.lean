/-! ===== the model, VIII: suits, chances, visits ===== -/
noncomputable def mdsC (mm : Mm) (t n : Int) : Int := jmx (angC (rd mm 55 0 t) (jrem (12 * n) 360)) (jabs (rd mm 56 0 t))
def mfaP (mm : Mm) (t n : Int) : Prop := wr (mooC mm n) ≤ rd mm 60 0 t ∨ 60 ≤ wr (mdsC mm t n)
def msuP (mm : Mm) (t a n u d : Int) : Prop := 0 < msnC mm a n u ∧ msnC mm a n u ≤ rd mm 61 0 t ∧ mtC mm a n = rd mm 58 0 t ∧ 0 ≤ mnwC mm a (rd mm 58 0 t) n ∧ n - mnwC mm a (rd mm 58 0 t) n ≤ 6 ∧ mfaP mm t n ∧ mhiA mm t a n u d
theorem wr_msn (mm : Mm) (a n u : Int) : wr (msnC mm a n u) = msnC mm a n u := by
  unfold msnC
  by_cases q : rd mm 45 0 (720 * a + 24 * n + u) = 1
  · rw [pif_t q]; rfl
  · rw [pif_f q, wr_rd]
theorem wr_mt (mm : Mm) (a n : Int) : wr (mtC mm a n) = mtC mm a n := by
  unfold mtC
  by_cases q : mtT mm a n < 0
  · rw [pif_t q]; rfl
  · rw [pif_f q, wr_rd]
theorem mnw_r (mm : Mm) (a i n : Int) (n0 : 0 ≤ n) : -1 ≤ mnwC mm a i n ∧ mnwC mm a i n ≤ n := by
  have h := fdown_range (fun t => ¬ rd mm 47 0 (90 * a + 30 * i + t) = 0) (n + 1).toNat
  change -1 ≤ mnwC mm a i n ∧ mnwC mm a i n < _ at h
  omega
set_option maxRecDepth 100000 in
set_option maxHeartbeats 400000 in
theorem M_msuits (t a n u d9 : Int) (mm : Mm) (o : Int64) (t0 : 0 ≤ t) (t1 : t < 34) (a0 : 0 ≤ a) (a1 : a < 3) (n0 : 0 ≤ n) (n1 : n < 30) (u0 : 0 ≤ u) (u1 : u < 24) (d0 : -2147483647 ≤ d9) (d1 : d9 ≤ 24) (i0 : 0 ≤ rd mm 58 0 t) (i1 : rd mm 58 0 t < 3) : MetX iX11_suits [xr 40 0, xi t, xi a, xi n, xi u, xi d9] mm o (rto (xi (bz (msuP mm t a n u d9))) mm o) := by
  refine MetX.of 2 (by decide +kernel) rfl (Nat.le_of_ble_eq_true rfl) ⟨by decide, by decide⟩ ?_
  intro p l e s m args below meth c Q V D ad A hC hN hok hF
  have t2 : 0 ≤ t ∧ t < 34 := ⟨t0, t1⟩
  have hnw := mnw_r mm a (rd mm 58 0 t) n n0
  have last : ∀ f x8 x9, ((¬ f = 0) → mfaP mm t n) → (f = 0 → ¬ mfaP mm t n) → wr f = f → Wx p l e (mrm iX11_suits) s m args below meth c 0 0 Q V D ad A 11 102 [(0, xr 40 0), (1, xi t), (2, xi a), (3, xi n), (4, xi u), (5, xi d9), (6, xi (msnC mm a n u)), (7, xi (mnwC mm a (rd mm 58 0 t) n)), (8, xi x8), (9, xi x9)] [xi f] mm o := by
    intro f x8 x9 h1 h0 hf
    refine wpx hC tkX11_suits hF [] 200 ?_
    refine ⟨fun q => ⟨Or.inl rfl, congrArg (fun z => some (xi z)) (bz_f (fun h => ?_)).symm, rfl, rfl⟩, fun q1 => ⟨t2, fun q => ⟨Or.inl rfl, congrArg (fun z => some (xi z)) (bz_f (fun h => ?_)).symm, rfl, rfl⟩, fun q2 => ?_⟩⟩
    · rw [wr_msn] at q; have := h.1; omega
    · rw [wr_msn, wr_rd] at q; have := h.2.1; omega
    rw [wr_msn] at q1; rw [wr_msn, wr_rd] at q2
    refine Wx.callV (x := iX11_suits) (y := iX11_mounted) (k := 40) (avs := [_, _]) (rest := []) hC hN tkX11_suits rfl rfl kX11_mounted rfl (M_mounted _ _ _ _ a0 a1 n0 n1) ⟨rfl, rfl⟩ rfl (Nat.le_of_ble_eq_true rfl) (by exact nol rfl) ?_
    rintro r mm' o' ⟨rfl, rfl, rfl⟩
    refine wpx hC tkX11_suits hF [] 200 ?_
    refine ⟨t2, fun q => ⟨Or.inl rfl, congrArg (fun z => some (xi z)) (bz_f (fun h => ?_)).symm, rfl, rfl⟩, fun q3 => ⟨fun q => ⟨Or.inl rfl, congrArg (fun z => some (xi z)) (bz_f (fun h => ?_)).symm, rfl, rfl⟩, fun q4 => ⟨fun q => ⟨Or.inl rfl, congrArg (fun z => some (xi z)) (bz_f (fun h => ?_)).symm, rfl, rfl⟩, fun q5 => ⟨fun q => ⟨Or.inl rfl, congrArg (fun z => some (xi z)) (bz_f (fun h => ?_)).symm, rfl, rfl⟩, fun q6 => ?_⟩⟩⟩⟩
    · rw [wr_mt, wr_rd] at q; exact q h.2.2.1
    · rw [wr_of (by omega) (by omega)] at q; have := h.2.2.2.1; omega
    · replace q : wr 6 < wr (n - mnwC mm a (rd mm 58 0 t) n) := q
      rw [wr_of (by omega) (by omega), wr_of (by omega) (by omega)] at q; have := h.2.2.2.2.1; omega
    · rw [hf] at q; exact h0 q h.2.2.2.2.2.1
    rw [wr_mt, wr_rd] at q3
    rw [wr_of (by omega) (by omega)] at q4
    replace q5 : ¬ wr 6 < wr (n - mnwC mm a (rd mm 58 0 t) n) := q5
    rw [wr_of (by omega) (by omega), wr_of (by omega) (by omega)] at q5
    rw [hf] at q6
    refine Wx.callV (x := iX11_suits) (y := iX11_isHigh) (k := 40) (avs := [_, _, _, _, _]) (rest := []) hC hN tkX11_suits rfl rfl kX11_isHigh rfl (M_isHigh _ _ _ _ _ _ _ t0 t1 a0 a1 u0 u1 d0 d1) ⟨rfl, rfl⟩ rfl (Nat.le_of_ble_eq_true rfl) (by exact nol rfl) ?_
    rintro r mm' o' ⟨rfl, rfl, rfl⟩
    refine wpx hC tkX11_suits hF [] 200 ?_
    exact ⟨fun q => ⟨Or.inl rfl, congrArg (fun z => some (xi z)) (bz_f (fun h => nb q h.2.2.2.2.2.2)).symm, rfl, rfl⟩, fun q7 => ⟨Or.inr rfl, congrArg (fun z => some (xi z)) (bz_t ⟨by omega, by omega, q3, by omega, by omega, h1 q6, yb q7⟩).symm, rfl, rfl⟩⟩
  have far : ∀ x8, Wx p l e (mrm iX11_suits) s m args below meth c 0 0 Q V D ad A 11 74 [(0, xr 40 0), (1, xi t), (2, xi a), (3, xi n), (4, xi u), (5, xi d9), (6, xi (msnC mm a n u)), (7, xi (mnwC mm a (rd mm 58 0 t) n)), (8, xi x8)] [xi (mdsC mm t n)] mm o := by
    intro x8
    refine wpx hC tkX11_suits hF [102] 200 ?_
    refine Wx.callV (x := iX11_suits) (y := iX11_lightOf) (k := 40) (avs := [_]) (rest := []) hC hN tkX11_suits rfl rfl kX11_lightOf rfl (M_lightOf _ _ _) ⟨rfl, rfl⟩ rfl (Nat.le_of_ble_eq_true rfl) (by exact nol rfl) ?_
    rintro r mm' o' ⟨rfl, rfl, rfl⟩
    refine wpx hC tkX11_suits hF [102] 200 ?_
    refine ⟨t2, fun q => last 1 x8 _ (fun _ => Or.inl (by rw [wr_rd] at q; exact q)) (fun h => absurd h (by decide)) rfl, fun q => ⟨fun q2 => last 0 x8 _ (fun h => absurd rfl h) (fun _ h => ?_) rfl, fun q2 => last 1 x8 _ (fun _ => Or.inr ?_) (fun h => absurd h (by decide)) rfl⟩⟩
    · rw [wr_rd] at q
      rw [show wr 60 = 60 from rfl] at q2
      unfold mfaP at h; omega
    · rw [show wr 60 = 60 from rfl] at q2; omega
  refine wpx hC tkX11_suits hF [] 200 ?_
  refine Wx.callV (x := iX11_suits) (y := iX11_seen) (k := 40) (avs := [_, _, _]) (rest := []) hC hN tkX11_suits rfl rfl kX11_seen rfl (M_seen _ _ _ _ _ a0 a1 n0 n1 u0 u1) ⟨rfl, rfl⟩ rfl (Nat.le_of_ble_eq_true rfl) (by exact nol rfl) ?_
  rintro r mm' o' ⟨rfl, rfl, rfl⟩
  refine wpx hC tkX11_suits hF [] 200 ?_
  refine ⟨t2, ?_⟩
  refine Wx.callV (x := iX11_suits) (y := iX11_newest) (k := 40) (avs := [_, _, _]) (rest := []) hC hN tkX11_suits rfl rfl kX11_newest rfl (M_newest _ _ _ _ _ a0 a1 i0 i1 n0 n1) ⟨rfl, rfl⟩ rfl (Nat.le_of_ble_eq_true rfl) (by exact nol rfl) ?_
  rintro r mm' o' ⟨rfl, rfl, rfl⟩
  refine wpx hC tkX11_suits hF [] 200 ?_
  refine ⟨t2, by decide, ?_⟩
  refine Wx.callV (x := iX11_suits) (y := iX11_angle) (k := 40) (avs := [_, _]) (rest := []) hC hN tkX11_suits rfl rfl kX11_angle rfl (M_mangle _ _ _ _) ⟨rfl, rfl⟩ rfl (Nat.le_of_ble_eq_true rfl) (by exact nol rfl) ?_
  rintro r mm' o' ⟨rfl, rfl, rfl⟩
  refine wpx hC tkX11_suits hF [] 200 ?_
  refine ⟨t2, ?_⟩
  refine Wx.callV (x := iX11_suits) (y := iX11_size) (k := 40) (avs := [_]) (rest := [_]) hC hN tkX11_suits rfl rfl kX11_size rfl (M_size _ _ _) ⟨rfl, rfl⟩ rfl (Nat.le_of_ble_eq_true rfl) (by exact nol rfl) ?_
  rintro r mm' o' ⟨rfl, rfl, rfl⟩
  refine wpx hC tkX11_suits hF [74] 200 ?_
  refine ⟨fun q => ⟨t2, ?_⟩, fun q => ?_⟩
  · refine Wx.callV (x := iX11_suits) (y := iX11_size) (k := 40) (avs := [_]) (rest := []) hC hN tkX11_suits rfl rfl kX11_size rfl (M_size _ _ _) ⟨rfl, rfl⟩ rfl (Nat.le_of_ble_eq_true rfl) (by exact nol rfl) ?_
    rintro r mm' o' ⟨rfl, rfl, rfl⟩
    have h := far (angC (rd mm 55 0 t) (jrem (12 * n) 360))
    rw [show mdsC mm t n = jabs (rd mm 56 0 t) from pif_t q] at h
    exact h
  · have h := far (angC (rd mm 55 0 t) (jrem (12 * n) 360))
    rw [show mdsC mm t n = angC (rd mm 55 0 t) (jrem (12 * n) 360) from pif_f q] at h
    exact h
noncomputable def mchC (mm : Mm) (t a n : Int) : Int := cntT (fun v => msuP mm t a n v (rd mm 57 0 t)) 24 0 0
set_option maxRecDepth 100000 in
set_option maxHeartbeats 400000 in
theorem M_many (t a n : Int) (mm : Mm) (o : Int64) (t0 : 0 ≤ t) (t1 : t < 34) (a0 : 0 ≤ a) (a1 : a < 3) (n0 : 0 ≤ n) (n1 : n < 30) (l0 : 0 ≤ rd mm 57 0 t) (l1 : rd mm 57 0 t ≤ 6) (i0 : 0 ≤ rd mm 58 0 t) (i1 : rd mm 58 0 t < 3) : MetX iX11_many [xr 40 0, xi t, xi a, xi n] mm o (rto (xi (mchC mm t a n)) mm o) := by
  refine MetX.of 1 (by decide +kernel) rfl (Nat.le_of_ble_eq_true rfl) ⟨by decide, by decide⟩ ?_
  intro p l e s m args below meth c Q V D ad A hC hN hok hF
  have loop : ∀ (k : Nat) (v z : Int), 0 ≤ v → v + k = 24 → cntT (fun v => msuP mm t a n v (rd mm 57 0 t)) k v z = mchC mm t a n → Wx p l e (mrm iX11_many) s m args below meth c 0 0 Q V D ad A 6 6 [(0, xr 40 0), (1, xi t), (2, xi a), (3, xi n), (4, xi z), (5, xi v)] [] mm o := by
    intro k
    induction k with
    | zero =>
      intro v z v0 hv he
      refine wpx hC tkX11_many hF [6] 200 ?_
      refine ⟨fun q => ⟨congrArg (fun z => some (xi z)) he, rfl, rfl⟩, fun q => ?_⟩
      rw [show wr 24 = 24 from rfl, wr_of (by omega) (by omega)] at q; omega
    | succ k ih =>
      intro v z v0 hv he
      refine wpx hC tkX11_many hF [6] 200 ?_
      refine ⟨fun q => ?_, fun q => ⟨⟨t0, t1⟩, ?_⟩⟩
      · rw [show wr 24 = 24 from rfl, wr_of (by omega) (by omega)] at q; omega
      refine Wx.callV (x := iX11_many) (y := iX11_suits) (k := 40) (avs := [_, _, _, _, _]) (rest := [_]) hC hN tkX11_many rfl rfl kX11_suits rfl (M_msuits _ _ _ _ _ _ _ t0 t1 a0 a1 n0 n1 v0 (by omega) (by omega) (by omega) i0 i1) ⟨rfl, rfl⟩ rfl (Nat.le_of_ble_eq_true rfl) (by exact nol rfl) ?_
      rintro r mm' o' ⟨rfl, rfl, rfl⟩
      refine wpx hC tkX11_many hF [6] 200 ?_
      refine ⟨fun q => ?_, fun q => ?_⟩
      · have h := ih (v + 1) z (by omega) (by omega) (by rw [← he]; exact congrArg (cntT _ k (v + 1)) (pif_f (nb q)).symm)
        rw [show z = z + 0 by omega] at h
        exact h
      · exact ih (v + 1) (z + 1) (by omega) (by omega) (by rw [← he]; exact congrArg (cntT _ k (v + 1)) (pif_t (yb q)).symm)
  refine wpx hC tkX11_many hF [6] 200 ?_
  exact loop 24 0 0 (by decide) (by decide) rfl
