/-! ===== the model, XXVII: the best order ===== -/
theorem cntT_q (P : Int → Prop) : ∀ (n : Nat) (c s : Int), s ≤ cntT P n c s ∧ cntT P n c s ≤ s + n
  | 0, c, s => by unfold cntT; omega
  | n + 1, c, s => by
    unfold cntT
    by_cases q : P c
    · rw [pif_t q]; have := cntT_q P n (c + 1) (s + 1); omega
    · rw [pif_f q]; have := cntT_q P n (c + 1) s; omega
noncomputable def mwK (a b : Int) : Nat → Int → Int → Mm → Int
  | 0, _, k, _ => k
  | n + 1, i, k, m => pif (k < 5) (pif (mwnP m i b ∧ 0 < mchC m i a b) (mwK a b n (i + 1) (k + 1) (st m 100 0 k (wr i))) (mwK a b n (i + 1) k m)) k
noncomputable def mwM (a b : Int) : Nat → Int → Int → Mm → Mm
  | 0, _, _, m => m
  | n + 1, i, k, m => pif (k < 5) (pif (mwnP m i b ∧ 0 < mchC m i a b) (mwM a b n (i + 1) (k + 1) (st m 100 0 k (wr i))) (mwM a b n (i + 1) k m)) m
def facW : Nat → Int → Int → Int
  | 0, _, f => f
  | n + 1, z, f => facW n (z + 1) (f * z)
def facN (k : Int) : Int := facW (k - 1).toNat 2 1
theorem fac_r : ∀ k : Fin 6, 1 ≤ facN k.val ∧ facN k.val ≤ 120 := by decide +kernel
noncomputable def mxW (m : Mm) (a b k : Int) : Nat → Int → Int → Int
  | 0, _, z => z
  | n + 1, i, z => mxW m a b k n (i + 1) (pif (wr z < wr (filR m a b k.toNat k.toNat k 0 i 0 0)) (filR m a b k.toNat k.toNat k 0 i 0 0) z)
noncomputable def mboK (m : Mm) (a b : Int) : Int := mwK a b (rd m 40 0 25).toNat 0 0 m
noncomputable def mboM (m : Mm) (a b : Int) : Mm := mwM a b (rd m 40 0 25).toNat 0 0 m
noncomputable def mboV (m : Mm) (a b : Int) : Int := mxW (mboM m a b) a b (mboK m a b) (facN (mboK m a b)).toNat 0 0
noncomputable def mbsM (mm : Mm) (a b : Int) : Mm := md E0 (ck (ixC a 3) (ixC b 30)) mm (fun m => mboM m a b)
noncomputable def mbsR (mm : Mm) (a b : Int) : Int := pif (ck (ixC a 3) (ixC b 30) = none) (mboV (hold mm (cdX E0 (ck (ixC a 3) (ixC b 30)))) a b) (-1)
set_option maxRecDepth 100000 in
set_option maxHeartbeats 400000 in
theorem M_mbestOrder (a b : Int) (mm : Mm) (o : Int64) (ha : wr a = a) (hb : wr b = b) (hI : IM mm) : MetX iX11_bestOrder [xr 40 0, xi a, xi b] mm o (rto (xi (mbsR mm a b)) (mbsM mm a b) o) := by
  refine MetX.of 1 (by decide +kernel) rfl (Nat.le_of_ble_eq_true rfl) ⟨by decide, by decide⟩ ?_
  intro p l e s m args below meth c Q V D ad A hC hN hok hF
  have hj : ∀ z, cdX E0 (ck (ixC a 3) (ixC b 30)) = z → Wx p l e (mrm iX11_bestOrder) s m args below meth c 0 0 Q V D ad A 8 22 [(0, xr 40 0), (1, xi a), (2, xi b)] [xi z, xr 40 0] mm o := by
    rintro z rfl
    refine Wx.callV (x := iX11_bestOrder) (y := iX11_holds) (k := 40) (avs := [_]) (rest := []) hC hN tkX11_bestOrder rfl rfl kX11_holds rfl (M_holdc _ _ _ _ (by decide)) ⟨rfl, rfl⟩ rfl (Nat.le_of_ble_eq_true rfl) (by exact nol rfl) ?_
    rintro r mm' o' ⟨rfl, rfl, rfl⟩
    refine wpx hC tkX11_bestOrder hF [35] 200 ?_
    refine ⟨fun q => ?_, fun q => ⟨congrArg (fun z => some (xi z)) (pif_f (yb q)).symm, md_s (yb q), rfl⟩⟩
    have hn := Classical.not_not.mp (nb q)
    obtain ⟨a0, a1⟩ := ix_of (ck_of hn).1
    obtain ⟨b0, b1⟩ := ix_of (ck_of hn).2
    have hI0 := IM_hold hI (cdX E0 (ck (ixC a 3) (ixC b 30)))
    obtain ⟨m0, hm0⟩ : ∃ m, hold mm (cdX E0 (ck (ixC a 3) (ixC b 30))) = m := ⟨_, rfl⟩
    have eM : mbsM mm a b = mboM m0 a b := by rw [← hm0]; exact md_n hn
    have eR : mbsR mm a b = mboV m0 a b := by rw [← hm0]; exact pif_t hn
    rw [hm0] at hI0
    have done : ∀ (k : Int) (m9 : Mm), IM m9 → 0 ≤ k → k ≤ 5 → (∀ j, 0 ≤ j → j < k → 0 ≤ rd m9 100 0 j ∧ rd m9 100 0 j < 24) → k = mboK m0 a b → m9 = mboM m0 a b → Wx p l e (mrm iX11_bestOrder) s m args below meth c 0 0 Q V D ad A 8 87 [(0, xr 40 0), (1, xi a), (2, xi b), (3, xi k)] [] m9 o := by
      intro k m9 hI9 k0 k1 hf ek em
      have hfr := fac_r ⟨k.toNat, by omega⟩
      have hkk : ((k.toNat : Nat) : Int) = k := by omega
      simp only [hkk] at hfr
      have mx : ∀ (q : Nat) (i z : Int), 0 ≤ i → i + q = facN k → mxW m9 a b k q i z = mboV m0 a b → Wx p l e (mrm iX11_bestOrder) s m args below meth c 0 0 Q V D ad A 8 118 [(0, xr 40 0), (1, xi a), (2, xi b), (3, xi k), (4, xi (facN k)), (5, xi z), (6, xi i)] [] m9 o := by
        intro q
        induction q with
        | zero =>
          intro i z i0 hi he
          refine wpx hC tkX11_bestOrder hF [118] 200 ?_
          refine ⟨fun _ => ⟨congrArg (fun z => some (xi z)) (he.trans eR.symm), eM.trans em.symm, rfl⟩, fun q => ?_⟩
          rw [wr_of (by omega) (by omega), wr_of (by omega) (by omega)] at q; omega
        | succ q ih =>
          intro i z i0 hi he
          refine wpx hC tkX11_bestOrder hF [118] 200 ?_
          refine ⟨fun q => ?_, fun _ => ?_⟩
          · rw [wr_of (by omega) (by omega), wr_of (by omega) (by omega)] at q; omega
          refine Wx.callV (x := iX11_bestOrder) (y := iX11_filled) (k := 40) (avs := [_, _, _, _]) (rest := []) hC hN tkX11_bestOrder rfl rfl kX11_filled rfl (M_filled _ _ _ _ _ _ hI9 a0 a1 b0 b1 k0 k1 i0 (by omega) hf) ⟨rfl, rfl⟩ rfl (Nat.le_of_ble_eq_true rfl) (by exact nol rfl) ?_
          rintro r mm' o' ⟨rfl, rfl, rfl⟩
          refine wpx hC tkX11_bestOrder hF [118] 200 ?_
          refine ⟨fun q => Wx.pick [0, 1, 2, 3, 4, 5, 6] rfl (ih (i + 1) z (by omega) (by omega) ?_), fun q => Wx.pick [0, 1, 2, 3, 4, 5, 6] rfl (ih (i + 1) _ (by omega) (by omega) ?_)⟩
          · rw [← he]; exact (congrArg (mxW m9 a b k _ (i + 1)) (pif_f (by omega))).symm
          · rw [← he]; exact (congrArg (mxW m9 a b k _ (i + 1)) (pif_t (by omega))).symm
      have fac : ∀ (q : Nat) (z f : Int), 2 ≤ z → z + q = k + 1 ∨ (q = 0 ∧ k < z ∧ z < 100) → facW q z f = facN k → Wx p l e (mrm iX11_bestOrder) s m args below meth c 0 0 Q V D ad A 8 93 [(0, xr 40 0), (1, xi a), (2, xi b), (3, xi k), (4, xi f), (5, xi z)] [] m9 o := by
        intro q
        induction q with
        | zero =>
          intro z f z0 hz he
          refine wpx hC tkX11_bestOrder hF [93, 118] 200 ?_
          refine ⟨fun _ => ?_, fun q => ?_⟩
          · rw [show f = facN k from he]
            exact Wx.pick [0, 1, 2, 3, 4, 5, 6] rfl (mx (facN k).toNat 0 0 (by decide) (by omega) (by rw [ek, em]; rfl))
          · rw [wr_of (by omega) (by omega), wr_of (by omega) (by omega)] at q; omega
        | succ q ih =>
          intro z f z0 hz he
          refine wpx hC tkX11_bestOrder hF [93, 118] 200 ?_
          refine ⟨fun q => ?_, fun _ => ?_⟩
          · rw [wr_of (by omega) (by omega), wr_of (by omega) (by omega)] at q; omega
          exact Wx.pick [0, 1, 2, 3, 4, 5] rfl (ih (z + 1) (f * z) (by omega) (by omega) he)
      refine wpx hC tkX11_bestOrder hF [93] 200 ?_
      exact fac (k - 1).toNat 2 1 (by decide) (by omega) rfl
    have loop : ∀ (q : Nat) (i k : Int) (m9 : Mm), 0 ≤ i → i + q = rd m9 40 0 25 → IM m9 → 0 ≤ k → k ≤ 5 → (∀ j, 0 ≤ j → j < k → 0 ≤ rd m9 100 0 j ∧ rd m9 100 0 j < 24) → mwK a b q i k m9 = mboK m0 a b → mwM a b q i k m9 = mboM m0 a b → Wx p l e (mrm iX11_bestOrder) s m args below meth c 0 0 Q V D ad A 8 35 [(0, xr 40 0), (1, xi a), (2, xi b), (3, xi k), (4, xi i)] [] m9 o := by
      intro q
      induction q with
      | zero =>
        intro i k m9 i0 hi hI9 k0 k1 hf ek em
        have hm1 := hI9.2.1.2
        refine wpx hC tkX11_bestOrder hF [35, 87] 200 ?_
        refine ⟨fun q => Wx.pick [0, 1, 2, 3] rfl (done k m9 hI9 k0 k1 hf ek em), fun q => ?_⟩
        rw [wr_rd, wr_of (by omega) (by omega)] at q; omega
      | succ q ih =>
        intro i k m9 i0 hi hI9 k0 k1 hf ek em
        have hm1 := hI9.2.1.2
        obtain ⟨-, ⟨l0, l1⟩, ⟨i3, i4⟩⟩ := hI9.2.2.2.1 i i0 (by omega)
        refine wpx hC tkX11_bestOrder hF [35, 87, 81] 200 ?_
        refine ⟨fun q => ?_, fun _ => ⟨fun q2 => ?_, fun q2 => ?_⟩⟩
        · rw [wr_rd, wr_of (by omega) (by omega)] at q; omega
        · rw [show wr 5 = 5 from rfl, wr_of (by omega) (by omega)] at q2
          exact Wx.pick [0, 1, 2, 3] rfl (done k m9 hI9 k0 k1 hf (by rw [← ek]; exact (pif_f (by omega)).symm) (by rw [← em]; exact (pif_f (by omega)).symm))
        rw [show wr 5 = 5 from rfl, wr_of (by omega) (by omega)] at q2
        have hk5 : k < 5 := by omega
        have skip : ¬ (mwnP m9 i b ∧ 0 < mchC m9 i a b) → Wx p l e (mrm iX11_bestOrder) s m args below meth c 0 0 Q V D ad A 8 81 [(0, xr 40 0), (1, xi a), (2, xi b), (3, xi k), (4, xi i)] [] m9 o := by
          intro hno
          refine wpx hC tkX11_bestOrder hF [35] 200 ?_
          exact ih (i + 1) k m9 (by omega) (by omega) hI9 k0 k1 hf (by rw [← ek]; exact ((pif_t hk5).trans (pif_f hno)).symm) (by rw [← em]; exact ((pif_t hk5).trans (pif_f hno)).symm)
        refine Wx.callV (x := iX11_bestOrder) (y := iX11_wanting) (k := 40) (avs := [_, _]) (rest := []) hC hN tkX11_bestOrder rfl rfl kX11_wanting rfl (M_wanting _ _ _ _ i0 (by omega) (hI9.2.2.2.2.2.2 i i0 (by omega))) ⟨rfl, rfl⟩ rfl (Nat.le_of_ble_eq_true rfl) (by exact nol rfl) ?_
        rintro r mm' o' ⟨rfl, rfl, rfl⟩
        refine wpx hC tkX11_bestOrder hF [35, 81] 200 ?_
        refine ⟨fun q3 => Wx.pick [0, 1, 2, 3, 4] rfl (skip (fun h => nb q3 h.1)), fun q3 => ?_⟩
        refine Wx.callV (x := iX11_bestOrder) (y := iX11_many) (k := 40) (avs := [_, _, _]) (rest := []) hC hN tkX11_bestOrder rfl rfl kX11_many rfl (M_many _ _ _ _ _ i0 (by omega) a0 a1 b0 b1 l0 l1 i3 i4) ⟨rfl, rfl⟩ rfl (Nat.le_of_ble_eq_true rfl) (by exact nol rfl) ?_
        rintro r mm' o' ⟨rfl, rfl, rfl⟩
        refine wpx hC tkX11_bestOrder hF [35, 81] 200 ?_
        have hB := cntT_q (fun v => msuP m9 i a b v (rd m9 57 0 i)) 24 0 0
        replace hB : 0 ≤ mchC m9 i a b ∧ mchC m9 i a b ≤ 0 + (24 : Nat) := hB
        refine ⟨fun q4 => Wx.pick [0, 1, 2, 3, 4] rfl (skip (fun h => ?_)), fun q4 => ⟨⟨k0, hk5⟩, ?_⟩⟩
        · have h2 := h.2; rw [wr_of (by omega) (by omega)] at q4; omega
        rw [wr_of (by omega) (by omega)] at q4
        have hyes : mwnP m9 i b ∧ 0 < mchC m9 i a b := ⟨yb q3, by omega⟩
        refine wpx hC tkX11_bestOrder hF [35] 200 ?_
        refine Wx.pick [0, 1, 2, 3, 4] rfl (ih (i + 1) (k + 1) _ (by omega) ?_ (IM_of hI9 (fun k i j hk => rd_st_ne (by omega))) (by omega) (by omega) (fun j j0 j1 => ?_) (by rw [← ek]; exact ((pif_t hk5).trans (pif_t hyes)).symm) (by rw [← em]; exact ((pif_t hk5).trans (pif_t hyes)).symm))
        · rw [rd_st_ne (by decide)]; omega
        · rw [rd_st]
          by_cases hj : j = k
          · rw [if_pos ⟨rfl, rfl, hj⟩, wr_wr, wr_of (by omega) (by omega)]; omega
          · rw [if_neg (fun h => hj h.2.2)]; exact hf j j0 (by omega)
    have h := loop (rd m0 40 0 25).toNat 0 0 m0 (by decide) (by have := hI0.2.1; omega) hI0 (by decide) (by decide) (fun j j0 j1 => by omega) rfl rfl
    rw [← hm0] at h
    exact h
  refine wpx hC tkX11_bestOrder hF [22] 200 ?_
  refine Wx.callV (x := iX11_bestOrder) (y := iX11_isSite) (k := 40) (avs := [_]) (rest := [_]) hC hN tkX11_bestOrder rfl rfl kX11_isSite rfl (M_isSite _ _ _ ha) ⟨rfl, rfl⟩ rfl (Nat.le_of_ble_eq_true rfl) (by exact nol rfl) ?_
  rintro r mm' o' ⟨rfl, rfl, rfl⟩
  refine wpx hC tkX11_bestOrder hF [22] 200 ?_
  refine ⟨fun q => hj 1 (cdx_ix (fun h => nb q (by omega))), fun q1 => ?_⟩
  have qa : 0 ≤ a ∧ a < 3 := by have := yb q1; omega
  refine Wx.callV (x := iX11_bestOrder) (y := iX11_isNight) (k := 40) (avs := [_]) (rest := [_]) hC hN tkX11_bestOrder rfl rfl kX11_isNight rfl (M_isNight _ _ _ hb) ⟨rfl, rfl⟩ rfl (Nat.le_of_ble_eq_true rfl) (by exact nol rfl) ?_
  rintro r mm' o' ⟨rfl, rfl, rfl⟩
  refine wpx hC tkX11_bestOrder hF [22] 200 ?_
  exact ⟨fun q => hj 1 (by rw [ck_ln (ix_t qa)]; exact cdy_ix (fun h => nb q (by omega))), fun q => hj 0 (by rw [ck_ln (ix_t qa)]; exact cdt_ix (by have := yb q; omega))⟩
