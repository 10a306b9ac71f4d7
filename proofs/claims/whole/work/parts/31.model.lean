/-! ===== the model, II ===== -/
theorem ix_or (z n : Int) : ixC z n = none ∨ ixC z n = some xIx := by
  unfold ixC
  by_cases h : 0 ≤ z ∧ z < n
  · exact Or.inl (if_pos h)
  · exact Or.inr (if_neg h)
theorem ck_orx {a b : Option String} (ha : a = none ∨ a = some xIx) (hb : b = none ∨ b = some xIx) : ck a b = none ∨ ck a b = some xIx := by
  rcases ha with rfl | rfl
  · exact hb
  · exact Or.inr rfl
def spP (a b c d : Int) : Prop := (0 ≤ a ∧ a ≤ 2) ∧ (0 ≤ b ∧ b ≤ 29) ∧ (0 ≤ c ∧ c ≤ 23) ∧ (0 ≤ d ∧ d ≤ 23)
theorem sl_t {a b c d : Int} (h : spP a b c d) : slC a b c d = none := by
  obtain ⟨h1, h2, h3, h4⟩ := h
  unfold slC
  rw [ck_ln (ix_t (by omega)), ck_ln (ix_t (by omega)), ck_ln (ix_t (by omega)), ix_t (by omega)]
theorem sl_f {a b c d : Int} (h : ¬ spP a b c d) : slC a b c d = some xIx := by
  have h1 : slC a b c d = none ∨ slC a b c d = some xIx := ck_orx (ix_or _ _) (ck_orx (ix_or _ _) (ck_orx (ix_or _ _) (ix_or _ _)))
  rcases h1 with h1 | h1
  · exfalso
    apply h
    obtain ⟨q1, q2, q3, q4⟩ := sl_of h1
    exact ⟨by omega, by omega, by omega, by omega⟩
  · exact h1
theorem cdx_sl {a b c d : Int} {X : Option String} (h : ¬ spP a b c d) : cdX E0 (ck (slC a b c d) X) = 1 := by rw [sl_f h]; exact cv_x.1
theorem cdy_sl {a b c d : Int} (h : ¬ spP a b c d) : cdX E0 (slC a b c d) = 1 := by rw [sl_f h]; exact cv_x.1
set_option maxRecDepth 100000 in
set_option maxHeartbeats 400000 in
theorem M_isSpan (a b c9 d9 : Int) (mm : Mm) (o : Int64) (ha : wr a = a) (hb : wr b = b) (hc : wr c9 = c9) (hd : wr d9 = d9) : MetX iX11_isSpan [xr 40 0, xi a, xi b, xi c9, xi d9] mm o (rto (xi (bz (spP a b c9 d9))) mm o) := by
  refine MetX.of 2 (by decide +kernel) rfl (Nat.le_of_ble_eq_true rfl) ⟨by decide, by decide⟩ ?_
  intro p l e s m args below meth c Q V D ad A hC hN hok hF
  refine wpx hC tkX11_isSpan hF [] 200 ?_
  refine Wx.callV (x := iX11_isSpan) (y := iX11_isSite) (k := 40) (avs := [_]) (rest := []) hC hN tkX11_isSpan rfl rfl kX11_isSite rfl (M_isSite _ _ _ ha) ⟨rfl, rfl⟩ rfl (Nat.le_of_ble_eq_true rfl) (by exact nol rfl) ?_
  rintro r mm' o' ⟨rfl, rfl, rfl⟩
  refine wpx hC tkX11_isSpan hF [] 200 ?_
  refine ⟨fun q => ⟨Or.inl rfl, congrArg (fun z => some (xi z)) (bz_f (fun h => nb q h.1)).symm, rfl, rfl⟩, fun q1 => ?_⟩
  refine Wx.callV (x := iX11_isSpan) (y := iX11_isNight) (k := 40) (avs := [_]) (rest := []) hC hN tkX11_isSpan rfl rfl kX11_isNight rfl (M_isNight _ _ _ hb) ⟨rfl, rfl⟩ rfl (Nat.le_of_ble_eq_true rfl) (by exact nol rfl) ?_
  rintro r mm' o' ⟨rfl, rfl, rfl⟩
  refine wpx hC tkX11_isSpan hF [] 200 ?_
  refine ⟨fun q => ⟨Or.inl rfl, congrArg (fun z => some (xi z)) (bz_f (fun h => nb q h.2.1)).symm, rfl, rfl⟩, fun q2 => ?_⟩
  refine Wx.callV (x := iX11_isSpan) (y := iX11_isSlot) (k := 40) (avs := [_]) (rest := []) hC hN tkX11_isSpan rfl rfl kX11_isSlot rfl (M_isSlot _ _ _ hc) ⟨rfl, rfl⟩ rfl (Nat.le_of_ble_eq_true rfl) (by exact nol rfl) ?_
  rintro r mm' o' ⟨rfl, rfl, rfl⟩
  refine wpx hC tkX11_isSpan hF [] 200 ?_
  refine ⟨fun q => ⟨Or.inl rfl, congrArg (fun z => some (xi z)) (bz_f (fun h => nb q h.2.2.1)).symm, rfl, rfl⟩, fun q3 => ?_⟩
  refine Wx.callV (x := iX11_isSpan) (y := iX11_isSlot) (k := 40) (avs := [_]) (rest := []) hC hN tkX11_isSpan rfl rfl kX11_isSlot rfl (M_isSlot _ _ _ hd) ⟨rfl, rfl⟩ rfl (Nat.le_of_ble_eq_true rfl) (by exact nol rfl) ?_
  rintro r mm' o' ⟨rfl, rfl, rfl⟩
  refine wpx hC tkX11_isSpan hF [] 200 ?_
  exact ⟨fun q => ⟨Or.inl rfl, congrArg (fun z => some (xi z)) (bz_f (fun h => nb q h.2.2.2)).symm, rfl, rfl⟩, fun q4 => ⟨Or.inr rfl, congrArg (fun z => some (xi z)) (bz_t ⟨yb q1, yb q2, yb q3, yb q4⟩).symm, rfl, rfl⟩⟩
def wthH (a b c d e : Int) : Option String := ck (slC a b c d) (ck (orC c d) (rgC e 0 50))
def wthF (a b c d e : Int) (m : Mm) : Mm := fori (fun j m => st m 44 0 (720 * a + 24 * b + j) (wr e)) (d - c + 1).toNat c m
noncomputable def wthM (mm : Mm) (a b c d e : Int) : Mm := md E0 (wthH a b c d e) mm (wthF a b c d e)
set_option maxRecDepth 100000 in
set_option maxHeartbeats 400000 in
theorem M_mweather (a b c9 d9 e9 : Int) (mm : Mm) (o : Int64) (ha : wr a = a) (hb : wr b = b) (hc : wr c9 = c9) (hd : wr d9 = d9) (he : wr e9 = e9) : MetX iX11_weather [xr 40 0, xi a, xi b, xi c9, xi d9, xi e9] mm o (rtv (wthM mm a b c9 d9 e9) o) := by
  refine MetX.of 0 (by decide +kernel) rfl (Nat.le_of_ble_eq_true rfl) ⟨by decide, by decide⟩ ?_
  intro p l e s m args below meth c Q V D ad A hC hN hok hF
  have hj : ∀ z, cdX E0 (wthH a b c9 d9 e9) = z → Wx p l e (mrm iX11_weather) s m args below meth c 0 0 Q V D ad A 7 40 [(0, xr 40 0), (1, xi a), (2, xi b), (3, xi c9), (4, xi d9), (5, xi e9)] [xi z, xr 40 0] mm o := by
    rintro z rfl
    refine Wx.callV (x := iX11_weather) (y := iX11_holds) (k := 40) (avs := [_]) (rest := []) hC hN tkX11_weather rfl rfl kX11_holds rfl (M_holdc _ _ _ _ (by decide)) ⟨rfl, rfl⟩ rfl (Nat.le_of_ble_eq_true rfl) (by exact nol rfl) ?_
    rintro r mm' o' ⟨rfl, rfl, rfl⟩
    refine wpx hC tkX11_weather hF [49] 200 ?_
    refine ⟨fun q => ⟨rfl, md_s (yb q), rfl⟩, fun q => ?_⟩
    have hn := Classical.not_not.mp (nb q)
    obtain ⟨⟨a0, a1⟩, ⟨b0, b1⟩, ⟨f0, f1⟩, ⟨d0, d1⟩⟩ := sl_of (ck_of hn).1
    have hcd := or_of (ck_of (ck_of hn).2).1
    have loop : ∀ (n : Nat) (j : Int) (m9 : Mm), 0 ≤ j → j + n = d9 + 1 → fori (fun j m => st m 44 0 (720 * a + 24 * b + j) (wr e9)) n j m9 = wthM mm a b c9 d9 e9 → Wx p l e (mrm iX11_weather) s m args below meth c 0 0 Q V D ad A 7 49 [(0, xr 40 0), (1, xi a), (2, xi b), (3, xi c9), (4, xi d9), (5, xi e9), (6, xi j)] [] m9 o := by
      intro n
      induction n with
      | zero =>
        intro j m9 j0 hj he9
        refine wpx hC tkX11_weather hF [49] 200 ?_
        refine ⟨fun q => ⟨rfl, he9.symm, rfl⟩, fun q => ?_⟩
        rw [hd, wr_of (by omega) (by omega)] at q; omega
      | succ n ih =>
        intro j m9 j0 hj he9
        refine wpx hC tkX11_weather hF [49] 200 ?_
        refine ⟨fun q => ?_, fun q => ⟨⟨by show 0 ≤ 720 * a + 24 * b + j; omega, by show 720 * a + 24 * b + j < (2160 : Int); omega⟩, ?_⟩⟩
        · rw [hd, wr_of (by omega) (by omega)] at q; omega
        exact ih (j + 1) _ (by omega) (by omega) he9
    exact loop (d9 - c9 + 1).toNat c9 _ f0 (by omega) (md_n hn).symm
  unfold wthH at hj
  refine wpx hC tkX11_weather hF [40] 200 ?_
  refine Wx.callV (x := iX11_weather) (y := iX11_isSpan) (k := 40) (avs := [_, _, _, _]) (rest := [_]) hC hN tkX11_weather rfl rfl kX11_isSpan rfl (M_isSpan _ _ _ _ _ _ ha hb hc hd) ⟨rfl, rfl⟩ rfl (Nat.le_of_ble_eq_true rfl) (by exact nol rfl) ?_
  rintro r mm' o' ⟨rfl, rfl, rfl⟩
  refine wpx hC tkX11_weather hF [40] 200 ?_
  refine ⟨fun q => ⟨fun q2 => hj 2 (by rw [hc, hd] at q2; rw [ck_ln (sl_t (yb q)), cdx_or (by omega)]), fun q2 => ?_⟩, fun q => hj 1 (cdx_sl (nb q))⟩
  rw [hc, hd] at q2
  refine Wx.callV (x := iX11_weather) (y := iX11_in) (k := 40) (avs := [_, _, _]) (rest := [_]) hC hN tkX11_weather rfl rfl kX11_in rfl (M_in _ _ _ _ _ he rfl rfl) ⟨rfl, rfl⟩ rfl (Nat.le_of_ble_eq_true rfl) (by exact nol rfl) ?_
  rintro r mm' o' ⟨rfl, rfl, rfl⟩
  refine wpx hC tkX11_weather hF [40] 200 ?_
  exact ⟨fun q3 => hj 2 (by rw [ck_ln (sl_t (yb q)), ck_ln (or_t (by omega)), cdy_rg (nb q3)]), fun q3 => hj 0 (by rw [ck_ln (sl_t (yb q)), ck_ln (or_t (by omega)), cdt_rg (yb q3)])⟩
def fltH (a b c d : Int) : Option String := ck (slC a b c d) (orC c d)
def fltF (a b c d : Int) (m : Mm) : Mm := fori (fun j m => st m 45 0 (720 * a + 24 * b + j) (wr 1)) (d - c + 1).toNat c m
noncomputable def fltM (mm : Mm) (a b c d : Int) : Mm := md E0 (fltH a b c d) mm (fltF a b c d)
set_option maxRecDepth 100000 in
set_option maxHeartbeats 400000 in
theorem M_mfault (a b c9 d9 : Int) (mm : Mm) (o : Int64) (ha : wr a = a) (hb : wr b = b) (hc : wr c9 = c9) (hd : wr d9 = d9) : MetX iX11_fault [xr 40 0, xi a, xi b, xi c9, xi d9] mm o (rtv (fltM mm a b c9 d9) o) := by
  refine MetX.of 0 (by decide +kernel) rfl (Nat.le_of_ble_eq_true rfl) ⟨by decide, by decide⟩ ?_
  intro p l e s m args below meth c Q V D ad A hC hN hok hF
  have hj : ∀ z, cdX E0 (fltH a b c9 d9) = z → Wx p l e (mrm iX11_fault) s m args below meth c 0 0 Q V D ad A 6 28 [(0, xr 40 0), (1, xi a), (2, xi b), (3, xi c9), (4, xi d9)] [xi z, xr 40 0] mm o := by
    rintro z rfl
    refine Wx.callV (x := iX11_fault) (y := iX11_holds) (k := 40) (avs := [_]) (rest := []) hC hN tkX11_fault rfl rfl kX11_holds rfl (M_holdc _ _ _ _ (by decide)) ⟨rfl, rfl⟩ rfl (Nat.le_of_ble_eq_true rfl) (by exact nol rfl) ?_
    rintro r mm' o' ⟨rfl, rfl, rfl⟩
    refine wpx hC tkX11_fault hF [37] 200 ?_
    refine ⟨fun q => ⟨rfl, md_s (yb q), rfl⟩, fun q => ?_⟩
    have hn := Classical.not_not.mp (nb q)
    obtain ⟨⟨a0, a1⟩, ⟨b0, b1⟩, ⟨f0, f1⟩, ⟨d0, d1⟩⟩ := sl_of (ck_of hn).1
    have hcd := or_of (ck_of hn).2
    have loop : ∀ (n : Nat) (j : Int) (m9 : Mm), 0 ≤ j → j + n = d9 + 1 → fori (fun j m => st m 45 0 (720 * a + 24 * b + j) (wr 1)) n j m9 = fltM mm a b c9 d9 → Wx p l e (mrm iX11_fault) s m args below meth c 0 0 Q V D ad A 6 37 [(0, xr 40 0), (1, xi a), (2, xi b), (3, xi c9), (4, xi d9), (5, xi j)] [] m9 o := by
      intro n
      induction n with
      | zero =>
        intro j m9 j0 hj he9
        refine wpx hC tkX11_fault hF [37] 200 ?_
        refine ⟨fun q => ⟨rfl, he9.symm, rfl⟩, fun q => ?_⟩
        rw [hd, wr_of (by omega) (by omega)] at q; omega
      | succ n ih =>
        intro j m9 j0 hj he9
        refine wpx hC tkX11_fault hF [37] 200 ?_
        refine ⟨fun q => ?_, fun q => ⟨⟨by show 0 ≤ 720 * a + 24 * b + j; omega, by show 720 * a + 24 * b + j < (2160 : Int); omega⟩, ?_⟩⟩
        · rw [hd, wr_of (by omega) (by omega)] at q; omega
        exact ih (j + 1) _ (by omega) (by omega) he9
    exact loop (d9 - c9 + 1).toNat c9 _ f0 (by omega) (md_n hn).symm
  unfold fltH at hj
  refine wpx hC tkX11_fault hF [28] 200 ?_
  refine Wx.callV (x := iX11_fault) (y := iX11_isSpan) (k := 40) (avs := [_, _, _, _]) (rest := [_]) hC hN tkX11_fault rfl rfl kX11_isSpan rfl (M_isSpan _ _ _ _ _ _ ha hb hc hd) ⟨rfl, rfl⟩ rfl (Nat.le_of_ble_eq_true rfl) (by exact nol rfl) ?_
  rintro r mm' o' ⟨rfl, rfl, rfl⟩
  refine wpx hC tkX11_fault hF [28] 200 ?_
  exact ⟨fun q => ⟨fun q2 => hj 2 (by rw [hc, hd] at q2; rw [ck_ln (sl_t (yb q)), cdy_or (by omega)]), fun q2 => hj 0 (by rw [hc, hd] at q2; rw [ck_ln (sl_t (yb q)), cdt_or (by omega)])⟩, fun q => hj 1 (cdx_sl (nb q))⟩
noncomputable def mtT (mm : Mm) (a n : Int) : Int := fdown (fun t => ¬ rd mm 46 0 (30 * a + t) < 0) (n + 1).toNat
noncomputable def mtC (mm : Mm) (a n : Int) : Int := pif (mtT mm a n < 0) 0 (rd mm 46 0 (30 * a + mtT mm a n))
set_option maxRecDepth 100000 in
set_option maxHeartbeats 400000 in
theorem M_mounted (a n : Int) (mm : Mm) (o : Int64) (a0 : 0 ≤ a) (a1 : a < 3) (n0 : 0 ≤ n) (n1 : n < 30) : MetX iX11_mounted [xr 40 0, xi a, xi n] mm o (rto (xi (mtC mm a n)) mm o) := by
  refine MetX.of 1 (by decide +kernel) rfl (Nat.le_of_ble_eq_true rfl) ⟨by decide, by decide⟩ ?_
  intro p l e s m args below meth c Q V D ad A hC hN hok hF
  have fin : Wx p l e (mrm iX11_mounted) s m args below meth c 0 0 Q V D ad A 4 26 [(0, xr 40 0), (1, xi a), (2, xi n), (3, xi (mtT mm a n))] [] mm o := by
    have hr := fdown_range (fun t => ¬ rd mm 46 0 (30 * a + t) < 0) (n + 1).toNat
    change -1 ≤ mtT mm a n ∧ mtT mm a n < _ at hr
    refine wpx hC tkX11_mounted hF [] 200 ?_
    refine ⟨fun q => ⟨⟨?_, ?_⟩, congrArg (fun z => some (xi z)) (pif_f ?_).symm, rfl, rfl⟩, fun q => ⟨congrArg (fun z => some (xi z)) (pif_t ?_).symm, rfl, rfl⟩⟩
    · rw [wr_of (by omega) (by omega)] at q; omega
    · rw [wr_of (by omega) (by omega)] at q; show 30 * a + mtT mm a n < (90 : Int); omega
    · rw [wr_of (by omega) (by omega)] at q; omega
    · rw [wr_of (by omega) (by omega)] at q; omega
  have loop : ∀ (k : Nat), k ≤ (n + 1).toNat → fdown (fun t => ¬ rd mm 46 0 (30 * a + t) < 0) k = mtT mm a n → Wx p l e (mrm iX11_mounted) s m args below meth c 0 0 Q V D ad A 4 2 [(0, xr 40 0), (1, xi a), (2, xi n), (3, xi ((k : Int) - 1))] [] mm o := by
    intro k
    induction k with
    | zero =>
      intro hk he
      refine wpx hC tkX11_mounted hF [2, 26] 200 ?_
      refine ⟨fun q => ?_, fun q => ?_⟩
      · have e9 : mtT mm a n = ((0 : Nat) : Int) - 1 := he.symm
        rw [← e9]; exact fin
      · exact absurd (show wr (((0 : Nat) : Int) - 1) < 0 by decide) q
    | succ k ih =>
      intro hk he
      refine wpx hC tkX11_mounted hF [2, 26] 200 ?_
      refine ⟨fun q => ?_, fun q => ⟨⟨by omega, by show 30 * a + (((k + 1 : Nat) : Int) - 1) < (90 : Int); omega⟩, fun q2 => ?_, fun q2 => ?_⟩⟩
      · rw [wr_of (by omega) (by omega)] at q; omega
      · rw [wr_rd, show (((k + 1 : Nat) : Int) - 1) = (k : Int) by omega] at q2
        have e9 : mtT mm a n = (k : Int) := by rw [← he, fdown_s]; exact pif_t (by omega)
        rw [show (((k + 1 : Nat) : Int) - 1) = mtT mm a n by omega]; exact fin
      · rw [wr_rd, show (((k + 1 : Nat) : Int) - 1) = (k : Int) by omega] at q2
        have h9 := ih (by omega) (by rw [← he, fdown_s]; exact (pif_f (by omega)).symm)
        rw [show (k : Int) - 1 = ((k + 1 : Nat) : Int) - 1 + (-1) by omega] at h9
        exact h9
  refine wpx hC tkX11_mounted hF [2] 200 ?_
  have h := loop (n + 1).toNat (Nat.le_refl _) rfl
  rw [show (((n + 1).toNat : Nat) : Int) - 1 = n by omega] at h
  exact h
