/-! ===== the model, III ===== -/
noncomputable def mntH (w a b c : Int) : Option String := ck (ixC a 3) (ck (ixC b 30) (ck (ixC c 3) (stC (bz (w ≤ b * 24)))))
noncomputable def mntM (mm : Mm) (a b c : Int) : Mm := md E2 (mntH (rd mm 40 0 45) a b c) mm (fun m => st m 46 0 (30 * a + b) (wr c))
noncomputable def mntR (mm : Mm) (a b c : Int) : Int := pif (mntH (rd mm 40 0 45) a b c = none) (mtC (hold mm (cdX E2 (mntH (rd mm 40 0 45) a b c))) a b) (-1)
set_option maxRecDepth 100000 in
set_option maxHeartbeats 400000 in
theorem M_mmount (a b c9 : Int) (mm : Mm) (o : Int64) (ha : wr a = a) (hb : wr b = b) (hc : wr c9 = c9) : MetX iX11_mount [xr 40 0, xi a, xi b, xi c9] mm o (rto (xi (mntR mm a b c9)) (mntM mm a b c9) o) := by
  refine MetX.of 1 (by decide +kernel) rfl (Nat.le_of_ble_eq_true rfl) ⟨by decide, by decide⟩ ?_
  intro p l e s m args below meth c Q V D ad A hC hN hok hF
  have hj : ∀ z, cdX E2 (mntH (rd mm 40 0 45) a b c9) = z → ∀ w, Wx p l e (mrm iX11_mount) s m args below meth c 0 0 Q V D ad A 6 59 [(0, xr 40 0), (1, xi a), (2, xi b), (3, xi c9), (4, xi w)] [xi z, xr 40 0] mm o := by
    rintro z rfl w
    refine Wx.callV (x := iX11_mount) (y := iX11_holds) (k := 40) (avs := [_]) (rest := []) hC hN tkX11_mount rfl rfl kX11_holds rfl (M_holdc _ _ _ _ (by decide)) ⟨rfl, rfl⟩ rfl (Nat.le_of_ble_eq_true rfl) (by exact nol rfl) ?_
    rintro r mm' o' ⟨rfl, rfl, rfl⟩
    refine wpx hC tkX11_mount hF [] 200 ?_
    refine ⟨fun q => ?_, fun q => ⟨congrArg (fun z => some (xi z)) (pif_f (yb q)).symm, md_s (yb q), rfl⟩⟩
    have hn := Classical.not_not.mp (nb q)
    obtain ⟨a0, a1⟩ := ix_of (ck_of hn).1
    obtain ⟨b0, b1⟩ := ix_of (ck_of (ck_of hn).2).1
    refine Wx.callV (x := iX11_mount) (y := iX11_mounted) (k := 40) (avs := [_, _]) (rest := []) hC hN tkX11_mount rfl rfl kX11_mounted rfl (M_mounted _ _ _ _ a0 a1 b0 b1) ⟨rfl, rfl⟩ rfl (Nat.le_of_ble_eq_true rfl) (by exact nol rfl) ?_
    rintro r mm' o' ⟨rfl, rfl, rfl⟩
    refine wpx hC tkX11_mount hF [] 200 ?_
    exact ⟨⟨by show 0 ≤ 30 * a + b; omega, by show 30 * a + b < (90 : Int); omega⟩, congrArg (fun z => some (xi z)) (pif_t hn).symm, md_n hn, rfl⟩
  have hf : ∀ w, ((¬ w = 0) → (0 ≤ a ∧ a < 3) ∧ (0 ≤ b ∧ b < 30) ∧ (0 ≤ c9 ∧ c9 < 3)) → (w = 0 → ¬ ((0 ≤ a ∧ a < 3) ∧ (0 ≤ b ∧ b < 30) ∧ (0 ≤ c9 ∧ c9 < 3))) → wr w = w → Wx p l e (mrm iX11_mount) s m args below meth c 0 0 Q V D ad A 6 31 [(0, xr 40 0), (1, xi a), (2, xi b), (3, xi c9)] [xi w] mm o := by
    intro w h1 h0 hw
    unfold mntH at hj
    refine wpx hC tkX11_mount hF [59] 200 ?_
    refine ⟨fun q => ⟨fun q2 => ?_, fun q2 => ?_⟩, fun q => ?_⟩
    · rw [hw] at q
      obtain ⟨qa, qb, qc⟩ := h1 q
      rw [wr_rd, wr_of (by omega) (by omega)] at q2
      exact hj 0 (by rw [ck_ln (ix_t qa), ck_ln (ix_t qb), ck_ln (ix_t qc), cdt_st (by omega)]) _
    · rw [hw] at q
      obtain ⟨qa, qb, qc⟩ := h1 q
      rw [wr_rd, wr_of (by omega) (by omega)] at q2
      exact hj 2 (by rw [ck_ln (ix_t qa), ck_ln (ix_t qb), ck_ln (ix_t qc), cdy2_st (by omega)]) _
    · rw [hw] at q
      have h2 := h0 q
      refine hj 1 ?_ _
      by_cases qa : 0 ≤ a ∧ a < 3
      · rw [ck_ln (ix_t qa)]
        by_cases qb : 0 ≤ b ∧ b < 30
        · rw [ck_ln (ix_t qb)]
          exact cdx2_ix (fun qc => h2 ⟨qa, qb, qc⟩)
        · exact cdx2_ix qb
      · exact cdx2_ix qa
  refine wpx hC tkX11_mount hF [31] 200 ?_
  refine Wx.callV (x := iX11_mount) (y := iX11_isSite) (k := 40) (avs := [_]) (rest := []) hC hN tkX11_mount rfl rfl kX11_isSite rfl (M_isSite _ _ _ ha) ⟨rfl, rfl⟩ rfl (Nat.le_of_ble_eq_true rfl) (by exact nol rfl) ?_
  rintro r mm' o' ⟨rfl, rfl, rfl⟩
  refine wpx hC tkX11_mount hF [31] 200 ?_
  refine ⟨fun q => hf 0 (fun h => absurd rfl h) (fun _ h => nb q (by omega)) rfl, fun q1 => ?_⟩
  refine Wx.callV (x := iX11_mount) (y := iX11_isNight) (k := 40) (avs := [_]) (rest := []) hC hN tkX11_mount rfl rfl kX11_isNight rfl (M_isNight _ _ _ hb) ⟨rfl, rfl⟩ rfl (Nat.le_of_ble_eq_true rfl) (by exact nol rfl) ?_
  rintro r mm' o' ⟨rfl, rfl, rfl⟩
  refine wpx hC tkX11_mount hF [31] 200 ?_
  refine ⟨fun q => hf 0 (fun h => absurd rfl h) (fun _ h => nb q (by omega)) rfl, fun q2 => ?_⟩
  refine Wx.callV (x := iX11_mount) (y := iX11_in) (k := 40) (avs := [_, _, _]) (rest := []) hC hN tkX11_mount rfl rfl kX11_in rfl (M_in _ _ _ _ _ hc rfl rfl) ⟨rfl, rfl⟩ rfl (Nat.le_of_ble_eq_true rfl) (by exact nol rfl) ?_
  rintro r mm' o' ⟨rfl, rfl, rfl⟩
  refine wpx hC tkX11_mount hF [31] 200 ?_
  exact ⟨fun q => hf 0 (fun h => absurd rfl h) (fun _ h => nb q (by omega)) rfl, fun q3 => hf 1 (fun _ => by have := yb q1; have := yb q2; have := yb q3; omega) (fun h => absurd h (by decide)) rfl⟩
def calH (a b c : Int) : Option String := ck (ixC a 3) (ck (ixC b 3) (ixC c 30))
noncomputable def calM (mm : Mm) (a b c : Int) : Mm := md E0 (calH a b c) mm (fun m => st m 47 0 (90 * a + 30 * b + c) (wr 1))
noncomputable def calR (mm : Mm) (a b c : Int) : Int := pif (calH a b c = none) (bz (rd mm 47 0 (90 * a + 30 * b + c) = 0)) 0
set_option maxRecDepth 100000 in
set_option maxHeartbeats 400000 in
theorem M_mcalibrate (a b c9 : Int) (mm : Mm) (o : Int64) (ha : wr a = a) (hb : wr b = b) (hc : wr c9 = c9) : MetX iX11_calibrate [xr 40 0, xi a, xi b, xi c9] mm o (rto (xi (calR mm a b c9)) (calM mm a b c9) o) := by
  refine MetX.of 2 (by decide +kernel) rfl (Nat.le_of_ble_eq_true rfl) ⟨by decide, by decide⟩ ?_
  intro p l e s m args below meth c Q V D ad A hC hN hok hF
  have hj : ∀ z, cdX E0 (calH a b c9) = z → Wx p l e (mrm iX11_calibrate) s m args below meth c 0 0 Q V D ad A 6 32 [(0, xr 40 0), (1, xi a), (2, xi b), (3, xi c9)] [xi z, xr 40 0] mm o := by
    rintro z rfl
    refine Wx.callV (x := iX11_calibrate) (y := iX11_holds) (k := 40) (avs := [_]) (rest := []) hC hN tkX11_calibrate rfl rfl kX11_holds rfl (M_holdc _ _ _ _ (by decide)) ⟨rfl, rfl⟩ rfl (Nat.le_of_ble_eq_true rfl) (by exact nol rfl) ?_
    rintro r mm' o' ⟨rfl, rfl, rfl⟩
    refine wpx hC tkX11_calibrate hF [] 200 ?_
    refine ⟨fun q => ?_, fun q => ⟨Or.inl rfl, congrArg (fun z => some (xi z)) (pif_f (yb q)).symm, md_s (yb q), rfl⟩⟩
    have hn := Classical.not_not.mp (nb q)
    obtain ⟨a0, a1⟩ := ix_of (ck_of hn).1
    obtain ⟨b0, b1⟩ := ix_of (ck_of (ck_of hn).2).1
    obtain ⟨f0, f1⟩ := ix_of (ck_of (ck_of hn).2).2
    have r0 : 0 ≤ 90 * a + 30 * b + c9 ∧ 90 * a + 30 * b + c9 < 270 := by omega
    have e0 : rd (hold mm (cdX E0 (calH a b c9))) 47 0 (90 * a + 30 * b + c9) = rd mm 47 0 (90 * a + 30 * b + c9) := rd_hold _ _ _ _ _ (by omega)
    refine ⟨r0, fun q2 => ⟨r0, ?_⟩, fun q2 => ⟨r0, ?_⟩⟩
    · rw [wr_rd, e0] at q2
      exact ⟨Or.inl rfl, congrArg (fun z => some (xi z)) ((pif_t hn).trans (bz_f q2)).symm, md_n hn, rfl⟩
    · rw [wr_rd, e0] at q2
      exact ⟨Or.inr rfl, congrArg (fun z => some (xi z)) ((pif_t hn).trans (bz_t q2)).symm, md_n hn, rfl⟩
  unfold calH at hj
  refine wpx hC tkX11_calibrate hF [32] 200 ?_
  refine Wx.callV (x := iX11_calibrate) (y := iX11_isSite) (k := 40) (avs := [_]) (rest := [_]) hC hN tkX11_calibrate rfl rfl kX11_isSite rfl (M_isSite _ _ _ ha) ⟨rfl, rfl⟩ rfl (Nat.le_of_ble_eq_true rfl) (by exact nol rfl) ?_
  rintro r mm' o' ⟨rfl, rfl, rfl⟩
  refine wpx hC tkX11_calibrate hF [32] 200 ?_
  refine ⟨fun q => hj 1 (cdx_ix (fun h => nb q (by omega))), fun q1 => ?_⟩
  have qa : 0 ≤ a ∧ a < 3 := by have := yb q1; omega
  refine Wx.callV (x := iX11_calibrate) (y := iX11_in) (k := 40) (avs := [_, _, _]) (rest := [_]) hC hN tkX11_calibrate rfl rfl kX11_in rfl (M_in _ _ _ _ _ hb rfl rfl) ⟨rfl, rfl⟩ rfl (Nat.le_of_ble_eq_true rfl) (by exact nol rfl) ?_
  rintro r mm' o' ⟨rfl, rfl, rfl⟩
  refine wpx hC tkX11_calibrate hF [32] 200 ?_
  refine ⟨fun q => hj 1 (by rw [ck_ln (ix_t qa)]; exact cdx_ix (fun h => nb q (by omega))), fun q2 => ?_⟩
  have qb : 0 ≤ b ∧ b < 3 := by have := yb q2; omega
  refine Wx.callV (x := iX11_calibrate) (y := iX11_isNight) (k := 40) (avs := [_]) (rest := [_]) hC hN tkX11_calibrate rfl rfl kX11_isNight rfl (M_isNight _ _ _ hc) ⟨rfl, rfl⟩ rfl (Nat.le_of_ble_eq_true rfl) (by exact nol rfl) ?_
  rintro r mm' o' ⟨rfl, rfl, rfl⟩
  refine wpx hC tkX11_calibrate hF [32] 200 ?_
  exact ⟨fun q => hj 1 (by rw [ck_ln (ix_t qa), ck_ln (ix_t qb)]; exact cdy_ix (fun h => nb q (by omega))), fun q => hj 0 (by rw [ck_ln (ix_t qa), ck_ln (ix_t qb)]; exact cdt_ix (by have := yb q; omega))⟩
noncomputable def mnwC (mm : Mm) (a i n : Int) : Int := fdown (fun t => ¬ rd mm 47 0 (90 * a + 30 * i + t) = 0) (n + 1).toNat
set_option maxRecDepth 100000 in
set_option maxHeartbeats 400000 in
theorem M_newest (a i n : Int) (mm : Mm) (o : Int64) (a0 : 0 ≤ a) (a1 : a < 3) (i0 : 0 ≤ i) (i1 : i < 3) (n0 : 0 ≤ n) (n1 : n < 30) : MetX iX11_newest [xr 40 0, xi a, xi i, xi n] mm o (rto (xi (mnwC mm a i n)) mm o) := by
  refine MetX.of 1 (by decide +kernel) rfl (Nat.le_of_ble_eq_true rfl) ⟨by decide, by decide⟩ ?_
  intro p l e s m args below meth c Q V D ad A hC hN hok hF
  have loop : ∀ (k : Nat), k ≤ (n + 1).toNat → fdown (fun t => ¬ rd mm 47 0 (90 * a + 30 * i + t) = 0) k = mnwC mm a i n → Wx p l e (mrm iX11_newest) s m args below meth c 0 0 Q V D ad A 5 3 [(0, xr 40 0), (1, xi a), (2, xi i), (3, xi n), (4, xi ((k : Int) - 1))] [] mm o := by
    intro k
    induction k with
    | zero =>
      intro hk he
      refine wpx hC tkX11_newest hF [3] 200 ?_
      refine ⟨fun q => ⟨congrArg (fun z => some (xi z)) he, rfl, rfl⟩, fun q => ?_⟩
      exact absurd (show wr (((0 : Nat) : Int) - 1) < 0 by decide) q
    | succ k ih =>
      intro hk he
      refine wpx hC tkX11_newest hF [3] 200 ?_
      refine ⟨fun q => ?_, fun q => ⟨⟨by show 0 ≤ 90 * a + 30 * i + (((k + 1 : Nat) : Int) - 1); omega, by show 90 * a + 30 * i + (((k + 1 : Nat) : Int) - 1) < (270 : Int); omega⟩, fun q2 => ?_, fun q2 => ?_⟩⟩
      · rw [wr_of (by omega) (by omega)] at q; omega
      · rw [wr_rd, show (((k + 1 : Nat) : Int) - 1) = (k : Int) by omega] at q2
        refine ⟨congrArg (fun z => some (xi z)) ?_, rfl, rfl⟩
        rw [← he, fdown_s]
        exact (show (((k + 1 : Nat) : Int) - 1) = (k : Int) by omega).trans (pif_t q2).symm
      · rw [wr_rd, show (((k + 1 : Nat) : Int) - 1) = (k : Int) by omega] at q2
        have h9 := ih (by omega) (by rw [← he, fdown_s]; exact (pif_f (fun h => h q2)).symm)
        rw [show (k : Int) - 1 = ((k + 1 : Nat) : Int) - 1 + (-1) by omega] at h9
        exact h9
  refine wpx hC tkX11_newest hF [3] 200 ?_
  have h := loop (n + 1).toNat (Nat.le_refl _) rfl
  rw [show (((n + 1).toNat : Nat) : Int) - 1 = n by omega] at h
  exact h
noncomputable def jmx (x y : Int) : Int := pif (wr x ≤ wr y) y x
noncomputable def jmn (x y : Int) : Int := pif (wr x ≤ wr y) x y
def hmA (mm : Mm) (a n u ra : Int) : Int := angC (jrem (rd mm 42 0 a + n + 5 * u) 360) ra
def hmB (mm : Mm) (a dec : Int) : Int := jabs (dec - rd mm 41 0 a)
noncomputable def hgtM (mm : Mm) (a n u ra dec : Int) : Int := 90 - jmx (hmA mm a n u ra) (hmB mm a dec) - jdiv (jmn (hmA mm a n u ra) (hmB mm a dec)) 2
set_option maxRecDepth 100000 in
set_option maxHeartbeats 400000 in
theorem M_heightOf (a n u ra dec : Int) (mm : Mm) (o : Int64) (a0 : 0 ≤ a) (a1 : a < 3) : MetX iX11_heightOf [xr 40 0, xi a, xi n, xi u, xi ra, xi dec] mm o (rto (xi (hgtM mm a n u ra dec)) mm o) := by
  refine MetX.of 1 (by decide +kernel) rfl (Nat.le_of_ble_eq_true rfl) ⟨by decide, by decide⟩ ?_
  intro p l e s m args below meth c Q V D ad A hC hN hok hF
  refine wpx hC tkX11_heightOf hF [] 200 ?_
  refine ⟨⟨a0, a1⟩, by decide, ?_⟩
  refine Wx.callV (x := iX11_heightOf) (y := iX11_angle) (k := 40) (avs := [_, _]) (rest := []) hC hN tkX11_heightOf rfl rfl kX11_angle rfl (M_mangle _ _ _ _) ⟨rfl, rfl⟩ rfl (Nat.le_of_ble_eq_true rfl) (by exact nol rfl) ?_
  rintro r mm' o' ⟨rfl, rfl, rfl⟩
  refine wpx hC tkX11_heightOf hF [] 200 ?_
  refine ⟨⟨a0, a1⟩, ?_⟩
  refine Wx.callV (x := iX11_heightOf) (y := iX11_size) (k := 40) (avs := [_]) (rest := []) hC hN tkX11_heightOf rfl rfl kX11_size rfl (M_size _ _ _) ⟨rfl, rfl⟩ rfl (Nat.le_of_ble_eq_true rfl) (by exact nol rfl) ?_
  rintro r mm' o' ⟨rfl, rfl, rfl⟩
  refine wpx hC tkX11_heightOf hF [] 200 ?_
  refine ⟨fun q => ⟨fun q2 => ⟨by decide, congrArg (fun z => some (xi z)) ?_, rfl, rfl⟩, fun q2 => absurd q q2⟩, fun q => ⟨fun q2 => absurd q2 q, fun q2 => ⟨by decide, congrArg (fun z => some (xi z)) ?_, rfl, rfl⟩⟩⟩
  · unfold hgtM jmx jmn hmA hmB; rw [pif_t q, pif_t q]
  · unfold hgtM jmx jmn hmA hmB; rw [pif_f q, pif_f q]
