/-! ===== the model, IX: visits ===== -/
/-- what the model was told is in range -/
def IM (mm : Mm) : Prop := (0 ≤ rd mm 40 0 12 ∧ rd mm 40 0 12 ≤ 8) ∧ (0 ≤ rd mm 40 0 25 ∧ rd mm 40 0 25 ≤ 24) ∧ (0 ≤ rd mm 40 0 30 ∧ rd mm 40 0 30 ≤ 10) ∧ (∀ t, 0 ≤ t → t < 34 → (0 ≤ rd mm 54 0 t ∧ rd mm 54 0 t < 8) ∧ (0 ≤ rd mm 57 0 t ∧ rd mm 57 0 t ≤ 6) ∧ (0 ≤ rd mm 58 0 t ∧ rd mm 58 0 t < 3)) ∧ (∀ t, 24 ≤ t → t < 34 → rd mm 54 0 t < 4) ∧ (∀ q, 0 ≤ q → q < 8 → 0 ≤ rd mm 49 0 q ∧ rd mm 49 0 q < 4) ∧ (∀ t, 0 ≤ t → t < 24 → 0 ≤ rd mm 62 0 t)
/-- the visits' numbers are in range -/
def VM (mm : Mm) : Prop := ∀ u, 0 ≤ u → u < 3 → -1 ≤ rd mm 80 0 u ∧ rd mm 80 0 u < 34
theorem IM_of {m m' : Mm} (h : IM m) (hk : ∀ (k : Nat) (i j : Int), (k = 40 ∧ (j = 12 ∨ j = 25 ∨ j = 30)) ∨ (49 ≤ k ∧ k ≤ 65) → rd m' k i j = rd m k i j) : IM m' := by
  have h54 : ∀ t, rd m' 54 0 t = rd m 54 0 t := fun t => hk 54 0 t (by omega)
  have h57 : ∀ t, rd m' 57 0 t = rd m 57 0 t := fun t => hk 57 0 t (by omega)
  have h58 : ∀ t, rd m' 58 0 t = rd m 58 0 t := fun t => hk 58 0 t (by omega)
  have h49 : ∀ t, rd m' 49 0 t = rd m 49 0 t := fun t => hk 49 0 t (by omega)
  have h62 : ∀ t, rd m' 62 0 t = rd m 62 0 t := fun t => hk 62 0 t (by omega)
  unfold IM at h ⊢
  simp only [hk 40 0 12 (by omega), hk 40 0 25 (by omega), hk 40 0 30 (by omega), h54, h57, h58, h49, h62]
  exact h
def chaH (nt a b c : Int) : Option String := ck (ixC a nt) (ck (ixC b 3) (ixC c 30))
noncomputable def mchR (mm : Mm) (a b c : Int) : Int := pif (chaH (rd mm 40 0 25) a b c = none) (mchC (hold mm (cdX E0 (chaH (rd mm 40 0 25) a b c))) a b c) (-1)
theorem IM_hold {mm : Mm} (h : IM mm) (z : Int) : IM (hold mm z) := IM_of h (fun k i j hk => rd_hold _ _ _ _ _ (by omega))
set_option maxRecDepth 100000 in
set_option maxHeartbeats 400000 in
theorem M_mchances (a b c9 : Int) (mm : Mm) (o : Int64) (ha : wr a = a) (hb : wr b = b) (hc : wr c9 = c9) (hI : IM mm) : MetX iX11_chances [xr 40 0, xi a, xi b, xi c9] mm o (rto (xi (mchR mm a b c9)) (hold mm (cdX E0 (chaH (rd mm 40 0 25) a b c9))) o) := by
  refine MetX.of 1 (by decide +kernel) rfl (Nat.le_of_ble_eq_true rfl) ⟨by decide, by decide⟩ ?_
  intro p l e s m args below meth c Q V D ad A hC hN hok hF
  have k0 := hI.2.1.1
  have k1 := hI.2.1.2
  have hj : ∀ z, cdX E0 (chaH (rd mm 40 0 25) a b c9) = z → Wx p l e (mrm iX11_chances) s m args below meth c 0 0 Q V D ad A 4 30 [(0, xr 40 0), (1, xi a), (2, xi b), (3, xi c9)] [xi z, xr 40 0] mm o := by
    rintro z rfl
    refine Wx.callV (x := iX11_chances) (y := iX11_holds) (k := 40) (avs := [_]) (rest := []) hC hN tkX11_chances rfl rfl kX11_holds rfl (M_holdc _ _ _ _ (by decide)) ⟨rfl, rfl⟩ rfl (Nat.le_of_ble_eq_true rfl) (by exact nol rfl) ?_
    rintro r mm' o' ⟨rfl, rfl, rfl⟩
    refine wpx hC tkX11_chances hF [] 200 ?_
    refine ⟨fun q => ?_, fun q => ⟨congrArg (fun z => some (xi z)) (pif_f (yb q)).symm, rfl, rfl⟩⟩
    have hn := Classical.not_not.mp (nb q)
    obtain ⟨a0, a1⟩ := ix_of (ck_of hn).1
    obtain ⟨b0, b1⟩ := ix_of (ck_of (ck_of hn).2).1
    obtain ⟨d0, d1⟩ := ix_of (ck_of (ck_of hn).2).2
    obtain ⟨-, ⟨l0, l1⟩, ⟨i0, i1⟩⟩ := (IM_hold hI (cdX E0 (chaH (rd mm 40 0 25) a b c9))).2.2.2.1 a a0 (by omega)
    refine Wx.callV (x := iX11_chances) (y := iX11_many) (k := 40) (avs := [_, _, _]) (rest := []) hC hN tkX11_chances rfl rfl kX11_many rfl (M_many _ _ _ _ _ a0 (by omega) b0 b1 d0 d1 l0 l1 i0 i1) ⟨rfl, rfl⟩ rfl (Nat.le_of_ble_eq_true rfl) (by exact nol rfl) ?_
    rintro r mm' o' ⟨rfl, rfl, rfl⟩
    refine wpx hC tkX11_chances hF [] 200 ?_
    exact ⟨congrArg (fun z => some (xi z)) (pif_t hn).symm, rfl, rfl⟩
  unfold chaH at hj
  refine wpx hC tkX11_chances hF [30] 200 ?_
  refine Wx.callV (x := iX11_chances) (y := iX11_isTarget) (k := 40) (avs := [_]) (rest := [_]) hC hN tkX11_chances rfl rfl kX11_isTarget rfl (M_isTarget _ _ _ ha k0) ⟨rfl, rfl⟩ rfl (Nat.le_of_ble_eq_true rfl) (by exact nol rfl) ?_
  rintro r mm' o' ⟨rfl, rfl, rfl⟩
  refine wpx hC tkX11_chances hF [30] 200 ?_
  refine ⟨fun q => hj 1 (cdx_ix (fun h => nb q (by omega))), fun q1 => ?_⟩
  have qa : 0 ≤ a ∧ a < rd mm 40 0 25 := by have := yb q1; omega
  refine Wx.callV (x := iX11_chances) (y := iX11_isSite) (k := 40) (avs := [_]) (rest := [_]) hC hN tkX11_chances rfl rfl kX11_isSite rfl (M_isSite _ _ _ hb) ⟨rfl, rfl⟩ rfl (Nat.le_of_ble_eq_true rfl) (by exact nol rfl) ?_
  rintro r mm' o' ⟨rfl, rfl, rfl⟩
  refine wpx hC tkX11_chances hF [30] 200 ?_
  refine ⟨fun q => hj 1 (by rw [ck_ln (ix_t qa)]; exact cdx_ix (fun h => nb q (by omega))), fun q2 => ?_⟩
  have qb : 0 ≤ b ∧ b < 3 := by have := yb q2; omega
  refine Wx.callV (x := iX11_chances) (y := iX11_isNight) (k := 40) (avs := [_]) (rest := [_]) hC hN tkX11_chances rfl rfl kX11_isNight rfl (M_isNight _ _ _ hc) ⟨rfl, rfl⟩ rfl (Nat.le_of_ble_eq_true rfl) (by exact nol rfl) ?_
  rintro r mm' o' ⟨rfl, rfl, rfl⟩
  refine wpx hC tkX11_chances hF [30] 200 ?_
  exact ⟨fun q => hj 1 (by rw [ck_ln (ix_t qa), ck_ln (ix_t qb)]; exact cdy_ix (fun h => nb q (by omega))), fun q => hj 0 (by rw [ck_ln (ix_t qa), ck_ln (ix_t qb)]; exact cdt_ix (by have := yb q; omega))⟩
noncomputable def grpM (mm : Mm) (t : Int) : Int := pif (t ≤ 23) (rd mm 49 0 (rd mm 54 0 t)) (rd mm 54 0 t)
theorem grp_r {mm : Mm} (hI : IM mm) {t : Int} (t0 : 0 ≤ t) (t1 : t < 34) : 0 ≤ grpM mm t ∧ grpM mm t < 4 := by
  obtain ⟨⟨h0, h1⟩, -⟩ := hI.2.2.2.1 t t0 t1
  unfold grpM
  by_cases q : t ≤ 23
  · rw [pif_t q]; exact hI.2.2.2.2.2.1 _ h0 h1
  · rw [pif_f q]; exact ⟨h0, hI.2.2.2.2.1 t (by omega) t1⟩
set_option maxRecDepth 100000 in
set_option maxHeartbeats 400000 in
theorem M_groupOf (t : Int) (mm : Mm) (o : Int64) (hI : IM mm) (t0 : 0 ≤ t) (t1 : t < 34) : MetX iX11_groupOf [xr 40 0, xi t] mm o (rto (xi (grpM mm t)) mm o) := by
  refine MetX.of 1 (by decide +kernel) rfl (Nat.le_of_ble_eq_true rfl) ⟨by decide, by decide⟩ ?_
  intro p l e s m args below meth c Q V D ad A hC hN hok hF
  obtain ⟨h0, -⟩ := hI.2.2.2.1 t t0 t1
  refine wpx hC tkX11_groupOf hF [] 200 ?_
  refine ⟨fun q => ⟨⟨t0, t1⟩, h0, congrArg (fun z => some (xi z)) (pif_t ?_).symm, rfl, rfl⟩, fun q => ⟨⟨t0, t1⟩, congrArg (fun z => some (xi z)) (pif_f ?_).symm, rfl, rfl⟩⟩
  · rw [show wr 23 = 23 from rfl, wr_of (by omega) (by omega)] at q; exact q
  · rw [show wr 23 = 23 from rfl, wr_of (by omega) (by omega)] at q; exact q
def goP (mm : Mm) (x : Int) : Prop := rd mm 80 0 0 = x ∨ rd mm 80 0 1 = x ∨ rd mm 80 0 2 = x
set_option maxRecDepth 100000 in
set_option maxHeartbeats 400000 in
theorem M_goesOn (x : Int) (mm : Mm) (o : Int64) (hx : wr x = x) : MetX iX11_goesOn [xr 40 0, xi x] mm o (rto (xi (bz (goP mm x))) mm o) := by
  refine MetX.of 2 (by decide +kernel) rfl (Nat.le_of_ble_eq_true rfl) ⟨by decide, by decide⟩ ?_
  intro p l e s m args below meth c Q V D ad A hC hN hok hF
  refine wpx hC tkX11_goesOn hF [] 200 ?_
  refine ⟨by decide, fun q => ⟨Or.inr rfl, congrArg (fun z => some (xi z)) (bz_t ?_).symm, rfl, rfl⟩, fun q => ⟨by decide, fun q2 => ⟨Or.inr rfl, congrArg (fun z => some (xi z)) (bz_t ?_).symm, rfl, rfl⟩, fun q2 => ⟨by decide, fun q3 => ⟨Or.inl rfl, congrArg (fun z => some (xi z)) (bz_f ?_).symm, rfl, rfl⟩, fun q3 => ⟨Or.inr rfl, congrArg (fun z => some (xi z)) (bz_t ?_).symm, rfl, rfl⟩⟩⟩⟩
  · rw [wr_rd, hx] at q; exact Or.inl q
  · rw [wr_rd, hx] at q2; exact Or.inr (Or.inl q2)
  · rw [wr_rd, hx] at q q2 q3
    rintro (h | h | h)
    · exact q h
    · exact q2 h
    · exact q3 h
  · rw [wr_rd, hx] at q3; exact Or.inr (Or.inr q3)
def mbgC (mm : Mm) (s x : Int) : Mm := st (st (st mm 80 0 s (wr x)) 81 0 s (wr 0)) 82 0 s (wr 0)
set_option maxRecDepth 100000 in
set_option maxHeartbeats 400000 in
theorem M_begin (s9 x : Int) (mm : Mm) (o : Int64) (s0 : 0 ≤ s9) (s1 : s9 < 3) : MetX iX11_begin [xr 40 0, xi s9, xi x] mm o (rtv (mbgC mm s9 x) o) := by
  refine MetX.of 0 (by decide +kernel) rfl (Nat.le_of_ble_eq_true rfl) ⟨by decide, by decide⟩ ?_
  intro p l e s m args below meth c Q V D ad A hC hN hok hF
  refine wpx hC tkX11_begin hF [] 200 ?_
  exact ⟨⟨s0, s1⟩, ⟨s0, s1⟩, ⟨s0, s1⟩, rfl, rfl, rfl⟩
noncomputable def mlsC (mm : Mm) (x n : Int) : Mm := st mm 77 0 (grpM mm x) (wr (rd mm 77 0 (grpM mm x) + n))
set_option maxRecDepth 100000 in
set_option maxHeartbeats 400000 in
theorem M_mlose (x n : Int) (mm : Mm) (o : Int64) (hI : IM mm) (x0 : 0 ≤ x) (x1 : x < 34) : MetX iX11_lose [xr 40 0, xi x, xi n] mm o (rtv (mlsC mm x n) o) := by
  refine MetX.of 0 (by decide +kernel) rfl (Nat.le_of_ble_eq_true rfl) ⟨by decide, by decide⟩ ?_
  intro p l e s m args below meth c Q V D ad A hC hN hok hF
  have hg := grp_r hI x0 x1
  refine wpx hC tkX11_lose hF [] 200 ?_
  refine Wx.callV (x := iX11_lose) (y := iX11_groupOf) (k := 40) (avs := [_]) (rest := [_]) hC hN tkX11_lose rfl rfl kX11_groupOf rfl (M_groupOf _ _ _ hI x0 x1) ⟨rfl, rfl⟩ rfl (Nat.le_of_ble_eq_true rfl) (by exact nol rfl) ?_
  rintro r mm' o' ⟨rfl, rfl, rfl⟩
  refine wpx hC tkX11_lose hF [] 200 ?_
  exact ⟨hg, hg, rfl, rfl, rfl⟩
def cl1 (m : Mm) (s w : Int) : Mm := st m 83 0 w (wr (rd m 81 0 s))
def cl2 (m : Mm) (s w : Int) : Mm := st m 84 0 w (wr (rd m 82 0 s))
noncomputable def mclC (mm : Mm) (s z : Int) : Mm := st (pif (23 < rd mm 80 0 s) (mlsC mm (rd mm 80 0 s) (rd mm 81 0 s)) (pif (0 ≤ rd mm 80 0 s) (st (cl2 (cl1 mm s (rd mm 80 0 s)) s (rd mm 80 0 s)) 85 0 (rd mm 80 0 s) (wr z)) mm)) 80 0 s (wr (-1))
set_option maxRecDepth 100000 in
set_option maxHeartbeats 400000 in
theorem M_close (s9 z9 : Int) (mm : Mm) (o : Int64) (hI : IM mm) (hV : VM mm) (s0 : 0 ≤ s9) (s1 : s9 < 3) : MetX iX11_close [xr 40 0, xi s9, xi z9] mm o (rtv (mclC mm s9 z9) o) := by
  refine MetX.of 0 (by decide +kernel) rfl (Nat.le_of_ble_eq_true rfl) ⟨by decide, by decide⟩ ?_
  intro p l e s m args below meth c Q V D ad A hC hN hok hF
  have s2 : 0 ≤ s9 ∧ s9 < 3 := ⟨s0, s1⟩
  have hv := hV s9 s0 s1
  refine wpx hC tkX11_close hF [] 200 ?_
  refine ⟨s2, fun q => ⟨fun q2 => ⟨s2, ?_⟩, fun q2 => ⟨s2, ?_, s2, ?_, ?_, s2, rfl, ?_, rfl⟩⟩, fun q => ⟨s2, ?_⟩⟩
  · rw [wr_rd, show wr 23 = 23 from rfl] at q; rw [wr_rd] at q2
    exact ⟨rfl, congrArg (fun m => st m 80 0 s9 (wr (-1))) ((pif_f (by omega)).trans (pif_f (by omega))), rfl⟩
  · rw [wr_rd, show wr 23 = 23 from rfl] at q; rw [wr_rd] at q2
    exact ⟨by omega, by show rd mm 80 0 s9 < (24 : Int); omega⟩
  · rw [wr_rd, show wr 23 = 23 from rfl] at q; rw [wr_rd] at q2
    exact ⟨by omega, by show rd mm 80 0 s9 < (24 : Int); omega⟩
  · rw [wr_rd, show wr 23 = 23 from rfl] at q; rw [wr_rd] at q2
    exact ⟨by omega, by show rd mm 80 0 s9 < (24 : Int); omega⟩
  · rw [wr_rd, show wr 23 = 23 from rfl] at q; rw [wr_rd] at q2
    exact congrArg (fun m => st m 80 0 s9 (wr (-1))) ((pif_f (by omega)).trans (pif_t (by omega)))
  · rw [wr_rd, show wr 23 = 23 from rfl] at q
    refine Wx.callV (x := iX11_close) (y := iX11_lose) (k := 40) (avs := [_, _]) (rest := []) hC hN tkX11_close rfl rfl kX11_lose rfl (M_mlose _ _ _ _ hI (by omega) hv.2) ⟨rfl, rfl⟩ rfl (Nat.le_of_ble_eq_true rfl) (by exact nol rfl) ?_
    rintro r mm' o' ⟨rfl, rfl, rfl⟩
    refine wpx hC tkX11_close hF [] 200 ?_
    exact ⟨s2, rfl, congrArg (fun m => st m 80 0 s9 (wr (-1))) (pif_t (by omega)), rfl⟩
