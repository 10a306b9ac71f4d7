/-! ===== the model, IV ===== -/
noncomputable def hghH (a b c d e : Int) : Option String := ck (slC a b c c) (ck (rgC d 0 359) (rgC e (-90) 90))
noncomputable def hghR (mm : Mm) (a b c d e : Int) : Int := pif (hghH a b c d e = none) (hgtM (hold mm (cdX E0 (hghH a b c d e))) a b c d e) (-1)
set_option maxRecDepth 100000 in
set_option maxHeartbeats 400000 in
theorem M_mheight (a b c9 d9 e9 : Int) (mm : Mm) (o : Int64) (ha : wr a = a) (hb : wr b = b) (hc : wr c9 = c9) (hd : wr d9 = d9) (he : wr e9 = e9) : MetX iX11_height [xr 40 0, xi a, xi b, xi c9, xi d9, xi e9] mm o (rto (xi (hghR mm a b c9 d9 e9)) (hold mm (cdX E0 (hghH a b c9 d9 e9))) o) := by
  refine MetX.of 1 (by decide +kernel) rfl (Nat.le_of_ble_eq_true rfl) ⟨by decide, by decide⟩ ?_
  intro p l e s m args below meth c Q V D ad A hC hN hok hF
  have hj : ∀ z, cdX E0 (hghH a b c9 d9 e9) = z → ∀ w, Wx p l e (mrm iX11_height) s m args below meth c 0 0 Q V D ad A 7 57 [(0, xr 40 0), (1, xi a), (2, xi b), (3, xi c9), (4, xi d9), (5, xi e9), (6, xi w)] [xi z, xr 40 0] mm o := by
    rintro z rfl w
    refine Wx.callV (x := iX11_height) (y := iX11_holds) (k := 40) (avs := [_]) (rest := []) hC hN tkX11_height rfl rfl kX11_holds rfl (M_holdc _ _ _ _ (by decide)) ⟨rfl, rfl⟩ rfl (Nat.le_of_ble_eq_true rfl) (by exact nol rfl) ?_
    rintro r mm' o' ⟨rfl, rfl, rfl⟩
    refine wpx hC tkX11_height hF [] 200 ?_
    refine ⟨fun q => ?_, fun q => ⟨congrArg (fun z => some (xi z)) (pif_f (yb q)).symm, rfl, rfl⟩⟩
    have hn := Classical.not_not.mp (nb q)
    obtain ⟨⟨a0, a1⟩, -⟩ := sl_of (ck_of hn).1
    refine Wx.callV (x := iX11_height) (y := iX11_heightOf) (k := 40) (avs := [_, _, _, _, _]) (rest := []) hC hN tkX11_height rfl rfl kX11_heightOf rfl (M_heightOf _ _ _ _ _ _ _ a0 a1) ⟨rfl, rfl⟩ rfl (Nat.le_of_ble_eq_true rfl) (by exact nol rfl) ?_
    rintro r mm' o' ⟨rfl, rfl, rfl⟩
    refine wpx hC tkX11_height hF [] 200 ?_
    exact ⟨congrArg (fun z => some (xi z)) (pif_t hn).symm, rfl, rfl⟩
  have hf : ∀ w, ((¬ w = 0) → spP a b c9 c9) → (w = 0 → ¬ spP a b c9 c9) → wr w = w → Wx p l e (mrm iX11_height) s m args below meth c 0 0 Q V D ad A 7 29 [(0, xr 40 0), (1, xi a), (2, xi b), (3, xi c9), (4, xi d9), (5, xi e9)] [xi w] mm o := by
    intro w h1 h0 hw
    unfold hghH at hj
    refine wpx hC tkX11_height hF [57] 200 ?_
    refine ⟨fun q => ?_, fun q => ?_⟩
    · rw [hw] at q
      have h2 := sl_t (h1 q)
      refine Wx.callV (x := iX11_height) (y := iX11_isPlace) (k := 40) (avs := [_, _]) (rest := [_]) hC hN tkX11_height rfl rfl kX11_isPlace rfl (M_isPlace _ _ _ _ hd he) ⟨rfl, rfl⟩ rfl (Nat.le_of_ble_eq_true rfl) (by exact nol rfl) ?_
      rintro r mm' o' ⟨rfl, rfl, rfl⟩
      refine wpx hC tkX11_height hF [57] 200 ?_
      refine ⟨fun q2 => hj 2 ?_ _, fun q2 => hj 0 ?_ _⟩
      · rw [ck_ln h2]
        by_cases qd : 0 ≤ d9 ∧ d9 ≤ 359
        · rw [ck_ln (rg_t qd)]; exact cdy_rg (fun h => nb q2 ⟨qd, h⟩)
        · exact cdx_rg qd
      · obtain ⟨qd, qe⟩ := yb q2
        rw [ck_ln h2, ck_ln (rg_t qd)]; exact cdt_rg qe
    · rw [hw] at q
      exact hj 1 (cdx_sl (h0 q)) _
  refine wpx hC tkX11_height hF [29] 200 ?_
  refine Wx.callV (x := iX11_height) (y := iX11_isSite) (k := 40) (avs := [_]) (rest := []) hC hN tkX11_height rfl rfl kX11_isSite rfl (M_isSite _ _ _ ha) ⟨rfl, rfl⟩ rfl (Nat.le_of_ble_eq_true rfl) (by exact nol rfl) ?_
  rintro r mm' o' ⟨rfl, rfl, rfl⟩
  refine wpx hC tkX11_height hF [29] 200 ?_
  refine ⟨fun q => hf 0 (fun h => absurd rfl h) (fun _ h => nb q h.1) rfl, fun q1 => ?_⟩
  refine Wx.callV (x := iX11_height) (y := iX11_isNight) (k := 40) (avs := [_]) (rest := []) hC hN tkX11_height rfl rfl kX11_isNight rfl (M_isNight _ _ _ hb) ⟨rfl, rfl⟩ rfl (Nat.le_of_ble_eq_true rfl) (by exact nol rfl) ?_
  rintro r mm' o' ⟨rfl, rfl, rfl⟩
  refine wpx hC tkX11_height hF [29] 200 ?_
  refine ⟨fun q => hf 0 (fun h => absurd rfl h) (fun _ h => nb q h.2.1) rfl, fun q2 => ?_⟩
  refine Wx.callV (x := iX11_height) (y := iX11_isSlot) (k := 40) (avs := [_]) (rest := []) hC hN tkX11_height rfl rfl kX11_isSlot rfl (M_isSlot _ _ _ hc) ⟨rfl, rfl⟩ rfl (Nat.le_of_ble_eq_true rfl) (by exact nol rfl) ?_
  rintro r mm' o' ⟨rfl, rfl, rfl⟩
  refine wpx hC tkX11_height hF [29] 200 ?_
  exact ⟨fun q => hf 0 (fun h => absurd rfl h) (fun _ h => nb q h.2.2.1) rfl, fun q3 => hf 1 (fun _ => ⟨yb q1, yb q2, yb q3, yb q3⟩) (fun h => absurd h (by decide)) rfl⟩
def mooC (mm : Mm) (n : Int) : Int := 100 - jdiv (jabs (15 - jrem (n + rd mm 40 0 2) 30) * 100) 15
set_option maxRecDepth 100000 in
set_option maxHeartbeats 400000 in
theorem M_lightOf (n : Int) (mm : Mm) (o : Int64)  : MetX iX11_lightOf [xr 40 0, xi n] mm o (rto (xi (mooC mm n)) mm o) := by
  refine MetX.of 1 (by decide +kernel) rfl (Nat.le_of_ble_eq_true rfl) ⟨by decide, by decide⟩ ?_
  intro p l e s m args below meth c Q V D ad A hC hN hok hF
  refine wpx hC tkX11_lightOf hF [] 200 ?_
  refine ⟨by decide, ?_⟩
  refine Wx.callV (x := iX11_lightOf) (y := iX11_size) (k := 40) (avs := [_]) (rest := [_]) hC hN tkX11_lightOf rfl rfl kX11_size rfl (M_size _ _ _) ⟨rfl, rfl⟩ rfl (Nat.le_of_ble_eq_true rfl) (by exact nol rfl) ?_
  rintro r mm' o' ⟨rfl, rfl, rfl⟩
  refine wpx hC tkX11_lightOf hF [] 200 ?_
  exact ⟨by decide, rfl, rfl, rfl⟩
noncomputable def lgtR (mm : Mm) (a : Int) : Int := pif (ixC a 30 = none) (mooC (hold mm (cdX E0 (ixC a 30))) a) (-1)
set_option maxRecDepth 100000 in
set_option maxHeartbeats 400000 in
theorem M_mlight (a : Int) (mm : Mm) (o : Int64) (ha : wr a = a) : MetX iX11_light [xr 40 0, xi a] mm o (rto (xi (lgtR mm a)) (hold mm (cdX E0 (ixC a 30))) o) := by
  refine MetX.of 1 (by decide +kernel) rfl (Nat.le_of_ble_eq_true rfl) ⟨by decide, by decide⟩ ?_
  intro p l e s m args below meth c Q V D ad A hC hN hok hF
  have hj : ∀ z, cdX E0 (ixC a 30) = z → Wx p l e (mrm iX11_light) s m args below meth c 0 0 Q V D ad A 2 14 [(0, xr 40 0), (1, xi a)] [xi z, xr 40 0] mm o := by
    rintro z rfl
    refine Wx.callV (x := iX11_light) (y := iX11_holds) (k := 40) (avs := [_]) (rest := []) hC hN tkX11_light rfl rfl kX11_holds rfl (M_holdc _ _ _ _ (by decide)) ⟨rfl, rfl⟩ rfl (Nat.le_of_ble_eq_true rfl) (by exact nol rfl) ?_
    rintro r mm' o' ⟨rfl, rfl, rfl⟩
    refine wpx hC tkX11_light hF [] 200 ?_
    refine ⟨fun q => ?_, fun q => ⟨congrArg (fun z => some (xi z)) (pif_f (yb q)).symm, rfl, rfl⟩⟩
    have hn := Classical.not_not.mp (nb q)
    refine Wx.callV (x := iX11_light) (y := iX11_lightOf) (k := 40) (avs := [_]) (rest := []) hC hN tkX11_light rfl rfl kX11_lightOf rfl (M_lightOf _ _ _) ⟨rfl, rfl⟩ rfl (Nat.le_of_ble_eq_true rfl) (by exact nol rfl) ?_
    rintro r mm' o' ⟨rfl, rfl, rfl⟩
    refine wpx hC tkX11_light hF [] 200 ?_
    exact ⟨congrArg (fun z => some (xi z)) (pif_t hn).symm, rfl, rfl⟩
  refine wpx hC tkX11_light hF [14] 200 ?_
  refine Wx.callV (x := iX11_light) (y := iX11_isNight) (k := 40) (avs := [_]) (rest := [_]) hC hN tkX11_light rfl rfl kX11_isNight rfl (M_isNight _ _ _ ha) ⟨rfl, rfl⟩ rfl (Nat.le_of_ble_eq_true rfl) (by exact nol rfl) ?_
  rintro r mm' o' ⟨rfl, rfl, rfl⟩
  refine wpx hC tkX11_light hF [14] 200 ?_
  exact ⟨fun q => hj 1 (cdy_ix (fun h => nb q (by omega))), fun q => hj 0 (cdt_ix (by have := yb q; omega))⟩
noncomputable def msnC (mm : Mm) (a n u : Int) : Int := pif (rd mm 45 0 (720 * a + 24 * n + u) = 1) 0 (rd mm 44 0 (720 * a + 24 * n + u))
set_option maxRecDepth 100000 in
set_option maxHeartbeats 400000 in
theorem M_seen (a n u : Int) (mm : Mm) (o : Int64) (a0 : 0 ≤ a) (a1 : a < 3) (n0 : 0 ≤ n) (n1 : n < 30) (u0 : 0 ≤ u) (u1 : u < 24) : MetX iX11_seen [xr 40 0, xi a, xi n, xi u] mm o (rto (xi (msnC mm a n u)) mm o) := by
  refine MetX.of 1 (by decide +kernel) rfl (Nat.le_of_ble_eq_true rfl) ⟨by decide, by decide⟩ ?_
  intro p l e s m args below meth c Q V D ad A hC hN hok hF
  have r0 : 0 ≤ 720 * a + 24 * n + u ∧ 720 * a + 24 * n + u < 2160 := by omega
  refine wpx hC tkX11_seen hF [] 200 ?_
  refine ⟨r0, fun q => ⟨r0, congrArg (fun z => some (xi z)) (pif_f ?_).symm, rfl, rfl⟩, fun q => ⟨congrArg (fun z => some (xi z)) (pif_t ?_).symm, rfl, rfl⟩⟩
  · rw [wr_rd, wr_1] at q; exact q
  · rw [wr_rd, wr_1] at q; exact q
noncomputable def msnR (mm : Mm) (a b c : Int) : Int := pif (slC a b c c = none) (msnC (hold mm (cdX E0 (slC a b c c))) a b c) (-1)
set_option maxRecDepth 100000 in
set_option maxHeartbeats 400000 in
theorem M_mseeing (a b c9 : Int) (mm : Mm) (o : Int64) (ha : wr a = a) (hb : wr b = b) (hc : wr c9 = c9) : MetX iX11_seeing [xr 40 0, xi a, xi b, xi c9] mm o (rto (xi (msnR mm a b c9)) (hold mm (cdX E0 (slC a b c9 c9))) o) := by
  refine MetX.of 1 (by decide +kernel) rfl (Nat.le_of_ble_eq_true rfl) ⟨by decide, by decide⟩ ?_
  intro p l e s m args below meth c Q V D ad A hC hN hok hF
  have hj : ∀ z, cdX E0 (slC a b c9 c9) = z → Wx p l e (mrm iX11_seeing) s m args below meth c 0 0 Q V D ad A 4 30 [(0, xr 40 0), (1, xi a), (2, xi b), (3, xi c9)] [xi z, xr 40 0] mm o := by
    rintro z rfl
    refine Wx.callV (x := iX11_seeing) (y := iX11_holds) (k := 40) (avs := [_]) (rest := []) hC hN tkX11_seeing rfl rfl kX11_holds rfl (M_holdc _ _ _ _ (by decide)) ⟨rfl, rfl⟩ rfl (Nat.le_of_ble_eq_true rfl) (by exact nol rfl) ?_
    rintro r mm' o' ⟨rfl, rfl, rfl⟩
    refine wpx hC tkX11_seeing hF [] 200 ?_
    refine ⟨fun q => ?_, fun q => ⟨congrArg (fun z => some (xi z)) (pif_f (yb q)).symm, rfl, rfl⟩⟩
    have hn := Classical.not_not.mp (nb q)
    obtain ⟨⟨a0, a1⟩, ⟨b0, b1⟩, ⟨f0, f1⟩, -⟩ := sl_of hn
    refine Wx.callV (x := iX11_seeing) (y := iX11_seen) (k := 40) (avs := [_, _, _]) (rest := []) hC hN tkX11_seeing rfl rfl kX11_seen rfl (M_seen _ _ _ _ _ a0 a1 b0 b1 f0 f1) ⟨rfl, rfl⟩ rfl (Nat.le_of_ble_eq_true rfl) (by exact nol rfl) ?_
    rintro r mm' o' ⟨rfl, rfl, rfl⟩
    refine wpx hC tkX11_seeing hF [] 200 ?_
    exact ⟨congrArg (fun z => some (xi z)) (pif_t hn).symm, rfl, rfl⟩
  refine wpx hC tkX11_seeing hF [30] 200 ?_
  refine Wx.callV (x := iX11_seeing) (y := iX11_isSite) (k := 40) (avs := [_]) (rest := [_]) hC hN tkX11_seeing rfl rfl kX11_isSite rfl (M_isSite _ _ _ ha) ⟨rfl, rfl⟩ rfl (Nat.le_of_ble_eq_true rfl) (by exact nol rfl) ?_
  rintro r mm' o' ⟨rfl, rfl, rfl⟩
  refine wpx hC tkX11_seeing hF [30] 200 ?_
  refine ⟨fun q => hj 1 (cdy_sl (fun h => nb q h.1)), fun q1 => ?_⟩
  refine Wx.callV (x := iX11_seeing) (y := iX11_isNight) (k := 40) (avs := [_]) (rest := [_]) hC hN tkX11_seeing rfl rfl kX11_isNight rfl (M_isNight _ _ _ hb) ⟨rfl, rfl⟩ rfl (Nat.le_of_ble_eq_true rfl) (by exact nol rfl) ?_
  rintro r mm' o' ⟨rfl, rfl, rfl⟩
  refine wpx hC tkX11_seeing hF [30] 200 ?_
  refine ⟨fun q => hj 1 (cdy_sl (fun h => nb q h.2.1)), fun q2 => ?_⟩
  refine Wx.callV (x := iX11_seeing) (y := iX11_isSlot) (k := 40) (avs := [_]) (rest := [_]) hC hN tkX11_seeing rfl rfl kX11_isSlot rfl (M_isSlot _ _ _ hc) ⟨rfl, rfl⟩ rfl (Nat.le_of_ble_eq_true rfl) (by exact nol rfl) ?_
  rintro r mm' o' ⟨rfl, rfl, rfl⟩
  refine wpx hC tkX11_seeing hF [30] 200 ?_
  exact ⟨fun q => hj 1 (cdy_sl (fun h => nb q h.2.2.1)), fun q3 => hj 0 (by rw [sl_t ⟨yb q1, yb q2, yb q3, yb q3⟩]; rfl)⟩
def shrH (a b : Int) : Option String := ck (ixC a 4) (rgC b 0 100)
noncomputable def shrM (mm : Mm) (a b : Int) : Mm := md E0 (shrH a b) mm (fun m => st m 48 0 a (wr b))
noncomputable def shrR (mm : Mm) (a b : Int) : Int := pif (shrH a b = none) (rd (hold mm (cdX E0 (shrH a b))) 48 0 a) (-1)
set_option maxRecDepth 100000 in
set_option maxHeartbeats 400000 in
theorem M_mshare (a b : Int) (mm : Mm) (o : Int64) (ha : wr a = a) (hb : wr b = b) : MetX iX11_share [xr 40 0, xi a, xi b] mm o (rto (xi (shrR mm a b)) (shrM mm a b) o) := by
  refine MetX.of 1 (by decide +kernel) rfl (Nat.le_of_ble_eq_true rfl) ⟨by decide, by decide⟩ ?_
  intro p l e s m args below meth c Q V D ad A hC hN hok hF
  have hj : ∀ z, cdX E0 (shrH a b) = z → Wx p l e (mrm iX11_share) s m args below meth c 0 0 Q V D ad A 4 29 [(0, xr 40 0), (1, xi a), (2, xi b)] [xi z, xr 40 0] mm o := by
    rintro z rfl
    refine Wx.callV (x := iX11_share) (y := iX11_holds) (k := 40) (avs := [_]) (rest := []) hC hN tkX11_share rfl rfl kX11_holds rfl (M_holdc _ _ _ _ (by decide)) ⟨rfl, rfl⟩ rfl (Nat.le_of_ble_eq_true rfl) (by exact nol rfl) ?_
    rintro r mm' o' ⟨rfl, rfl, rfl⟩
    refine wpx hC tkX11_share hF [] 200 ?_
    refine ⟨fun q => ?_, fun q => ⟨congrArg (fun z => some (xi z)) (pif_f (yb q)).symm, md_s (yb q), rfl⟩⟩
    have hn := Classical.not_not.mp (nb q)
    obtain ⟨a0, a1⟩ := ix_of (ck_of hn).1
    exact ⟨⟨a0, a1⟩, ⟨a0, a1⟩, congrArg (fun z => some (xi z)) (pif_t hn).symm, md_n hn, rfl⟩
  unfold shrH at hj
  refine wpx hC tkX11_share hF [29] 200 ?_
  refine Wx.callV (x := iX11_share) (y := iX11_isGroup) (k := 40) (avs := [_]) (rest := [_]) hC hN tkX11_share rfl rfl kX11_isGroup rfl (M_isGroup _ _ _ ha) ⟨rfl, rfl⟩ rfl (Nat.le_of_ble_eq_true rfl) (by exact nol rfl) ?_
  rintro r mm' o' ⟨rfl, rfl, rfl⟩
  refine wpx hC tkX11_share hF [29] 200 ?_
  refine ⟨fun q => ?_, fun q => hj 1 (cdx_ix (fun h => nb q (by omega)))⟩
  have qa : 0 ≤ a ∧ a < 4 := by have := yb q; omega
  refine Wx.callV (x := iX11_share) (y := iX11_in) (k := 40) (avs := [_, _, _]) (rest := [_]) hC hN tkX11_share rfl rfl kX11_in rfl (M_in _ _ _ _ _ hb rfl rfl) ⟨rfl, rfl⟩ rfl (Nat.le_of_ble_eq_true rfl) (by exact nol rfl) ?_
  rintro r mm' o' ⟨rfl, rfl, rfl⟩
  refine wpx hC tkX11_share hF [29] 200 ?_
  exact ⟨fun q => hj 2 (by rw [ck_ln (ix_t qa)]; exact cdy_rg (nb q)), fun q => hj 0 (by rw [ck_ln (ix_t qa)]; exact cdt_rg (yb q))⟩
