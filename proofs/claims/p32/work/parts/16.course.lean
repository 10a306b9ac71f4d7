/-! ===== finish, observe, endNight, runSlot, copyFrom, restart, useFrom ===== -/
def finN (mm : Mm) (x : Int) : Int := rd mm 26 x 8 / 24
noncomputable def aimF (mm : Mm) (v j : Int) : Int := pif (rd mm 31 v 0 = 1) (rd mm 18 (rd mm 31 v 1) j) (rd mm 19 (rd mm 31 v 1) j)
noncomputable def finU (mm : Mm) (x v i : Int) : Int := newC mm i (aimF mm v 4) (finN mm x + 1).toNat
noncomputable def finQ (mm : Mm) (x v i : Int) : Int := jmax 0 (100 - rd mm 31 v 3 - 5 * (finN mm x - finU mm x v i))
noncomputable def finG (mm : Mm) (x v i : Int) : Int := pif (wr (finQ mm x v i) < aimF mm v 8) 0 1
noncomputable def fin1 (mm : Mm) (x v i : Int) : Mm := keepC mm x v i (rd mm 26 x 8) (finQ mm x v i) (finG mm x v i) (finU mm x v i)
noncomputable def fin2 (mm m1 : Mm) (x v : Int) : Mm := st m1 25 (30 + x) (pif (rd mm 31 v 0 = 1) (rd m1 18 (rd mm 31 v 1) 0) (rd m1 19 (rd mm 31 v 1) 0)) (wr (rd m1 25 (30 + x) (pif (rd mm 31 v 0 = 1) (rd m1 18 (rd mm 31 v 1) 0) (rd m1 19 (rd mm 31 v 1) 0)) + rd m1 31 v 2))
noncomputable def fin3 (m2 : Mm) (x v n g : Int) : Mm := pif (rd m2 31 v 0 = 2) (st m2 24 (30 + x) (rd m2 31 v 1) (wr 1 % 2)) (pif (g = 0) m2 (addC m2 (30 + x) (rd m2 31 v 1) n))
noncomputable def fin4 (m3 : Mm) (x v g : Int) : Mm := beginC (st m3 26 x 9 (wr (rd m3 26 x 9 + g))) v 0 (-1)
noncomputable def finC (mm : Mm) (x v i : Int) : Mm := fin4 (fin3 (fin2 mm (fin1 mm x v i) x v) x v (finN mm x) (finG mm x v i)) x v (finG mm x v i)
theorem rd_keep (mm : Mm) (x v s t q g u : Int) (k : Nat) (i j : Int) (h28 : k ≠ 28) (h27 : k ≠ 27) : rd (keepC mm x v s t q g u) k i j = rd mm k i j := by
  unfold keepC
  by_cases h : rd mm 27 x 1 < 100
  · rw [pif_t h]
    unfold kpn kpC kp2 kp1
    rw [rd_st_ne h27, rd_st_ne h28, rd_st_ne h28, rd_st_ne h28, rd_st_ne h28, rd_st_ne h28, rd_st_ne h28, rd_st_ne h28]
  · rw [pif_f h]
theorem finG01 (mm : Mm) (x v i : Int) : finG mm x v i = 0 ∨ finG mm x v i = 1 := by
  unfold finG
  by_cases h : wr (finQ mm x v i) < aimF mm v 8
  · exact Or.inl (pif_t h)
  · exact Or.inr (pif_f h)
set_option maxRecDepth 100000 in
set_option maxHeartbeats 400000 in
theorem M_finish1 (x v i : Int) (mm : Mm) (o : Int64) (hI : IA mm) (i0 : 0 ≤ i) (i1 : i < 3) (w0 : 0 ≤ rd mm 26 x 8) (w1 : rd mm 26 x 8 < 720) (c0 : 0 ≤ rd mm 27 x 1) (hk0 : ¬ rd mm 31 v 0 = 0) (hk :  rd mm 31 v 0 = 1) (n0 : 0 ≤ rd mm 31 v 1) (n1 : rd mm 31 v 1 < 24) : MetX iX4_finish [xr 26 x, xr 31 v, xi i] mm o (rtv (finC mm x v i) o) := by
  refine MetX.of 0 (by decide +kernel) rfl (Nat.le_of_ble_eq_true rfl) ⟨by decide, by decide⟩ ?_
  intro p l e s m args below meth c Q V D ad A hC hN hok hF
  have hO := hI.1 _ n0 n1
  obtain ⟨g0, g1⟩ := hO.1
  obtain ⟨j0, j1⟩ := hO.2.2.1
  have hn24 : jdiv (rd mm 26 x 8) 24 = rd mm 26 x 8 / 24 := jdiv24 w0 (by omega)
  have hnn : (rd mm 26 x 8 / 24 + 1).toNat ≤ 30 := by omega
  have eA : ∀ j, aimF mm v j = rd mm 18 (rd mm 31 v 1) j := fun j => pif_t hk
  have eU : finU mm x v i = newC mm i (rd mm 18 (rd mm 31 v 1) 4) (rd mm 26 x 8 / 24 + 1).toNat := by unfold finU; rw [eA]; rfl
  have tail : ∀ g : Int, g = finG mm x v i → Wx p l e (mrm iX4_finish) s m args below meth c 0 0 Q V D ad A 8 70 [(0, xr 26 x), (1, xr 31 v), (2, xi i), (3, xr 18 (rd mm 31 v 1)), (4, xi (rd mm 26 x 8 / 24)), (5, xi (finU mm x v i)), (6, xi (finQ mm x v i))] [xi g] mm o := by
    intro g hg
    have hg01 : g = 0 ∨ g = 1 := by rw [hg]; exact finG01 mm x v i
    refine wpx hC tkX4_finish hF [160] 200 ?_
    refine Wx.callV (x := iX4_finish) (y := iX2_keep) (k := 27) (avs := [_, _, _, _, _, _]) (rest := []) hC hN tkX4_finish rfl rfl kX2_keep rfl (M_keep _ _ _ _ _ _ _ _ _ c0) ⟨rfl, rfl⟩ rfl (Nat.le_of_ble_eq_true rfl) (by exact nol rfl) ?_
    rintro r mm' o' ⟨rfl, rfl, rfl⟩
    have e1 : keepC mm x v i (rd mm 26 x 8) (finQ mm x v i) g (finU mm x v i) = fin1 mm x v i := by rw [hg]; rfl
    rw [e1]
    have r1 : ∀ (k : Nat) (a b : Int), k ≠ 28 → k ≠ 27 → rd (fin1 mm x v i) k a b = rd mm k a b := fun k a b h h' => rd_keep _ _ _ _ _ _ _ _ _ _ _ h h'
    have eg : rd (fin1 mm x v i) 18 (rd mm 31 v 1) 0 = rd mm 18 (rd mm 31 v 1) 0 := r1 _ _ _ (by decide) (by decide)
    have e2 : st (fin1 mm x v i) 25 (30 + x) (rd (fin1 mm x v i) 18 (rd mm 31 v 1) 0) (wr (rd (fin1 mm x v i) 25 (30 + x) (rd (fin1 mm x v i) 18 (rd mm 31 v 1) 0) + rd (fin1 mm x v i) 31 v 2)) = fin2 mm (fin1 mm x v i) x v := by
      unfold fin2
      rw [show pif (rd mm 31 v 0 = 1) (rd (fin1 mm x v i) 18 (rd mm 31 v 1) 0) (rd (fin1 mm x v i) 19 (rd mm 31 v 1) 0) = rd (fin1 mm x v i) 18 (rd mm 31 v 1) 0 from pif_t hk]
    have r2 : ∀ (k : Nat) (a b : Int), k ≠ 28 → k ≠ 27 → k ≠ 25 → rd (fin2 mm (fin1 mm x v i) x v) k a b = rd mm k a b := fun k a b h h' h'' => (rd_st_ne h'').trans (r1 k a b h h')
    have last : ∀ m3 : Mm, m3 = fin3 (fin2 mm (fin1 mm x v i) x v) x v (finN mm x) g → Wx p l e (mrm iX4_finish) s m args below meth c 0 0 Q V D ad A 8 160 [(0, xr 26 x), (1, xr 31 v), (7, xi g)] [] m3 o := by
      intro m3 h3
      refine wpx hC tkX4_finish hF [175] 200 ?_
      have hfin : finC mm x v i = fin4 m3 x v g := by rw [h3, hg]; rfl
      refine ⟨fun q => ?_, fun q => ?_⟩
      · have hg0 : g = 0 := by rcases hg01 with h | h; exact h; rw [h] at q; exact absurd q (by decide)
        refine wpx hC tkX4_finish hF [] 200 ?_
        refine Wx.callV (x := iX4_finish) (y := iX9_clear) (k := 31) (avs := []) (rest := []) hC hN tkX4_finish rfl rfl kX9_clear rfl (M_vclear _ _ _) ⟨rfl, rfl⟩ rfl (Nat.le_of_ble_eq_true rfl) (by exact nol rfl) ?_
        rintro r mm' o' ⟨rfl, rfl, rfl⟩
        refine wpx hC tkX4_finish hF [] 200 ?_
        refine ⟨rfl, ?_, rfl⟩
        rw [hfin, hg0]; rfl
      · have hg1 : g = 1 := by rcases hg01 with h | h; rw [h] at q; exact absurd rfl q; exact h
        refine wpx hC tkX4_finish hF [] 200 ?_
        refine Wx.callV (x := iX4_finish) (y := iX9_clear) (k := 31) (avs := []) (rest := []) hC hN tkX4_finish rfl rfl kX9_clear rfl (M_vclear _ _ _) ⟨rfl, rfl⟩ rfl (Nat.le_of_ble_eq_true rfl) (by exact nol rfl) ?_
        rintro r mm' o' ⟨rfl, rfl, rfl⟩
        refine wpx hC tkX4_finish hF [] 200 ?_
        refine ⟨rfl, ?_, rfl⟩
        rw [hfin, hg1]; rfl
    refine wpx hC tkX4_finish hF [160] 200 ?_
    refine ⟨⟨by rw [eg]; exact g0, by rw [eg]; exact g1⟩, ⟨by rw [eg]; exact g0, by rw [eg]; exact g1⟩, ?_⟩
    rw [e2]
    have k2 : rd (fin2 mm (fin1 mm x v i) x v) 31 v 0 = rd mm 31 v 0 := r2 _ _ _ (by decide) (by decide) (by decide)
    have nm2 : rd (fin2 mm (fin1 mm x v i) x v) 31 v 1 = rd mm 31 v 1 := r2 _ _ _ (by decide) (by decide) (by decide)
    refine ⟨fun q => ?_, fun q => ?_⟩
    · rw [wr_rd, show wr 2 = 2 from rfl] at q
      refine ⟨fun q2 => ?_, fun q2 => ?_⟩
      · have hg0 : g = 0 := by rcases hg01 with h | h; exact h; rw [h] at q2; exact absurd q2 (by decide)
        exact Wx.pick [0, 1, 7] rfl (last _ (by unfold fin3; rw [pif_f q, pif_t hg0]))
      · have hg1 : ¬ g = 0 := by rcases hg01 with h | h; rw [h] at q2; exact absurd rfl q2; omega
        have hk2 := hI.1 _ n0 n1
        have e9 : rd (fin2 mm (fin1 mm x v i) x v) 18 (rd (fin2 mm (fin1 mm x v i) x v) 31 v 1) 9 = rd mm 18 (rd mm 31 v 1) 9 := by rw [nm2]; exact r2 _ _ _ (by decide) (by decide) (by decide)
        refine ⟨⟨by rw [nm2]; exact n0, by rw [nm2]; exact n1⟩, ?_⟩
        refine Wx.callV (x := iX4_finish) (y := iX3_addGood) (k := 20) (avs := [_, _]) (rest := []) hC hN tkX4_finish rfl rfl kX3_addGood rfl (M_addGood _ _ _ _ _ (by rw [e9]; exact hk2.2.2.2.1.1) (by rw [e9]; exact hk2.2.2.2.1.2)) ⟨rfl, rfl⟩ rfl (Nat.le_of_ble_eq_true rfl) (by exact nol rfl) ?_
        rintro r mm' o' ⟨rfl, rfl, rfl⟩
        exact Wx.pick [0, 1, 7] rfl (last _ (by unfold fin3; rw [pif_f q, pif_f hg1]; rfl))
    · rw [wr_rd, show wr 2 = 2 from rfl] at q
      have hm2 : rd mm 31 v 1 < 10 := by exact absurd (k2.symm.trans q) (by rw [hk]; decide)
      refine ⟨⟨by rw [nm2]; exact n0, by rw [nm2]; exact hm2⟩, ?_⟩
      exact Wx.pick [0, 1, 7] rfl (last _ (by unfold fin3; rw [pif_t q]))
  refine wpx hC tkX4_finish hF [70] 200 ?_
  refine Wx.callV (x := iX4_finish) (y := iX4_aimOf) (k := 26) (avs := [_]) (rest := []) hC hN tkX4_finish rfl rfl kX4_aimOf rfl (M_aimOf1 _ _ _ _ hk n0 n1) ⟨rfl, rfl⟩ rfl (Nat.le_of_ble_eq_true rfl) (by exact nol rfl) ?_
  rintro r mm' o' ⟨rfl, rfl, rfl⟩
  refine wpx hC tkX4_finish hF [70] 200 ?_
  refine ⟨by decide, ⟨i0, i1⟩, ?_⟩
  rw [hn24]
  refine Wx.callV (x := iX4_finish) (y := iX7_newestCalibration) (k := 11) (avs := [_, _]) (rest := []) hC hN tkX4_finish rfl rfl kX7_newestCalibration rfl (M_newestCalibration _ _ _ (rd mm 26 x 8 / 24 + 1).toNat _ _ (by omega) j0 j1 hnn) ⟨rfl, rfl⟩ rfl (Nat.le_of_ble_eq_true rfl) (by exact nol rfl) ?_
  rintro r mm' o' ⟨rfl, rfl, rfl⟩
  rw [← eU]
  refine wpx hC tkX4_finish hF [70] 200 ?_
  refine ⟨fun q => ?_, fun q => ?_⟩
  · rw [wr_rd] at q
    exact tail 0 (by
      symm
      exact pif_t (by rw [eA]; exact q))
  · rw [wr_rd] at q
    exact tail 1 (by
      symm
      exact pif_f (by rw [eA]; exact q))
set_option maxRecDepth 100000 in
set_option maxHeartbeats 400000 in
theorem M_finish2 (x v i : Int) (mm : Mm) (o : Int64) (hI : IA mm) (i0 : 0 ≤ i) (i1 : i < 3) (w0 : 0 ≤ rd mm 26 x 8) (w1 : rd mm 26 x 8 < 720) (c0 : 0 ≤ rd mm 27 x 1) (hk2 : rd mm 31 v 0 = 2) (hk : ¬ rd mm 31 v 0 = 1) (n0 : 0 ≤ rd mm 31 v 1) (n1 : rd mm 31 v 1 < 10) : MetX iX4_finish [xr 26 x, xr 31 v, xi i] mm o (rtv (finC mm x v i) o) := by
  refine MetX.of 0 (by decide +kernel) rfl (Nat.le_of_ble_eq_true rfl) ⟨by decide, by decide⟩ ?_
  intro p l e s m args below meth c Q V D ad A hC hN hok hF
  have hO := hI.2.1 _ n0 n1
  obtain ⟨g0, g1⟩ := hO.1
  obtain ⟨j0, j1⟩ := hO.2.2
  have hn24 : jdiv (rd mm 26 x 8) 24 = rd mm 26 x 8 / 24 := jdiv24 w0 (by omega)
  have hnn : (rd mm 26 x 8 / 24 + 1).toNat ≤ 30 := by omega
  have eA : ∀ j, aimF mm v j = rd mm 19 (rd mm 31 v 1) j := fun j => pif_f hk
  have eU : finU mm x v i = newC mm i (rd mm 19 (rd mm 31 v 1) 4) (rd mm 26 x 8 / 24 + 1).toNat := by unfold finU; rw [eA]; rfl
  have tail : ∀ g : Int, g = finG mm x v i → Wx p l e (mrm iX4_finish) s m args below meth c 0 0 Q V D ad A 8 70 [(0, xr 26 x), (1, xr 31 v), (2, xi i), (3, xr 19 (rd mm 31 v 1)), (4, xi (rd mm 26 x 8 / 24)), (5, xi (finU mm x v i)), (6, xi (finQ mm x v i))] [xi g] mm o := by
    intro g hg
    have hg01 : g = 0 ∨ g = 1 := by rw [hg]; exact finG01 mm x v i
    refine wpx hC tkX4_finish hF [160] 200 ?_
    refine Wx.callV (x := iX4_finish) (y := iX2_keep) (k := 27) (avs := [_, _, _, _, _, _]) (rest := []) hC hN tkX4_finish rfl rfl kX2_keep rfl (M_keep _ _ _ _ _ _ _ _ _ c0) ⟨rfl, rfl⟩ rfl (Nat.le_of_ble_eq_true rfl) (by exact nol rfl) ?_
    rintro r mm' o' ⟨rfl, rfl, rfl⟩
    have e1 : keepC mm x v i (rd mm 26 x 8) (finQ mm x v i) g (finU mm x v i) = fin1 mm x v i := by rw [hg]; rfl
    rw [e1]
    have r1 : ∀ (k : Nat) (a b : Int), k ≠ 28 → k ≠ 27 → rd (fin1 mm x v i) k a b = rd mm k a b := fun k a b h h' => rd_keep _ _ _ _ _ _ _ _ _ _ _ h h'
    have eg : rd (fin1 mm x v i) 19 (rd mm 31 v 1) 0 = rd mm 19 (rd mm 31 v 1) 0 := r1 _ _ _ (by decide) (by decide)
    have e2 : st (fin1 mm x v i) 25 (30 + x) (rd (fin1 mm x v i) 19 (rd mm 31 v 1) 0) (wr (rd (fin1 mm x v i) 25 (30 + x) (rd (fin1 mm x v i) 19 (rd mm 31 v 1) 0) + rd (fin1 mm x v i) 31 v 2)) = fin2 mm (fin1 mm x v i) x v := by
      unfold fin2
      rw [show pif (rd mm 31 v 0 = 1) (rd (fin1 mm x v i) 18 (rd mm 31 v 1) 0) (rd (fin1 mm x v i) 19 (rd mm 31 v 1) 0) = rd (fin1 mm x v i) 19 (rd mm 31 v 1) 0 from pif_f hk]
    have r2 : ∀ (k : Nat) (a b : Int), k ≠ 28 → k ≠ 27 → k ≠ 25 → rd (fin2 mm (fin1 mm x v i) x v) k a b = rd mm k a b := fun k a b h h' h'' => (rd_st_ne h'').trans (r1 k a b h h')
    have last : ∀ m3 : Mm, m3 = fin3 (fin2 mm (fin1 mm x v i) x v) x v (finN mm x) g → Wx p l e (mrm iX4_finish) s m args below meth c 0 0 Q V D ad A 8 160 [(0, xr 26 x), (1, xr 31 v), (7, xi g)] [] m3 o := by
      intro m3 h3
      refine wpx hC tkX4_finish hF [175] 200 ?_
      have hfin : finC mm x v i = fin4 m3 x v g := by rw [h3, hg]; rfl
      refine ⟨fun q => ?_, fun q => ?_⟩
      · have hg0 : g = 0 := by rcases hg01 with h | h; exact h; rw [h] at q; exact absurd q (by decide)
        refine wpx hC tkX4_finish hF [] 200 ?_
        refine Wx.callV (x := iX4_finish) (y := iX9_clear) (k := 31) (avs := []) (rest := []) hC hN tkX4_finish rfl rfl kX9_clear rfl (M_vclear _ _ _) ⟨rfl, rfl⟩ rfl (Nat.le_of_ble_eq_true rfl) (by exact nol rfl) ?_
        rintro r mm' o' ⟨rfl, rfl, rfl⟩
        refine wpx hC tkX4_finish hF [] 200 ?_
        refine ⟨rfl, ?_, rfl⟩
        rw [hfin, hg0]; rfl
      · have hg1 : g = 1 := by rcases hg01 with h | h; rw [h] at q; exact absurd rfl q; exact h
        refine wpx hC tkX4_finish hF [] 200 ?_
        refine Wx.callV (x := iX4_finish) (y := iX9_clear) (k := 31) (avs := []) (rest := []) hC hN tkX4_finish rfl rfl kX9_clear rfl (M_vclear _ _ _) ⟨rfl, rfl⟩ rfl (Nat.le_of_ble_eq_true rfl) (by exact nol rfl) ?_
        rintro r mm' o' ⟨rfl, rfl, rfl⟩
        refine wpx hC tkX4_finish hF [] 200 ?_
        refine ⟨rfl, ?_, rfl⟩
        rw [hfin, hg1]; rfl
    refine wpx hC tkX4_finish hF [160] 200 ?_
    refine ⟨⟨by rw [eg]; exact g0, by rw [eg]; exact g1⟩, ⟨by rw [eg]; exact g0, by rw [eg]; exact g1⟩, ?_⟩
    rw [e2]
    have k2 : rd (fin2 mm (fin1 mm x v i) x v) 31 v 0 = rd mm 31 v 0 := r2 _ _ _ (by decide) (by decide) (by decide)
    have nm2 : rd (fin2 mm (fin1 mm x v i) x v) 31 v 1 = rd mm 31 v 1 := r2 _ _ _ (by decide) (by decide) (by decide)
    refine ⟨fun q => ?_, fun q => ?_⟩
    · rw [wr_rd, show wr 2 = 2 from rfl] at q
      refine ⟨fun q2 => ?_, fun q2 => ?_⟩
      · have hg0 : g = 0 := by rcases hg01 with h | h; exact h; rw [h] at q2; exact absurd q2 (by decide)
        exact Wx.pick [0, 1, 7] rfl (last _ (by unfold fin3; rw [pif_f q, pif_t hg0]))
      · have hg1 : ¬ g = 0 := by rcases hg01 with h | h; rw [h] at q2; exact absurd rfl q2; omega
        exact absurd (k2.trans hk2) q
    · rw [wr_rd, show wr 2 = 2 from rfl] at q
      have hm2 : rd mm 31 v 1 < 10 := by exact n1
      refine ⟨⟨by rw [nm2]; exact n0, by rw [nm2]; exact hm2⟩, ?_⟩
      exact Wx.pick [0, 1, 7] rfl (last _ (by unfold fin3; rw [pif_t q]))
  refine wpx hC tkX4_finish hF [70] 200 ?_
  refine Wx.callV (x := iX4_finish) (y := iX4_aimOf) (k := 26) (avs := [_]) (rest := []) hC hN tkX4_finish rfl rfl kX4_aimOf rfl (M_aimOf2 _ _ _ _ hk n0 n1) ⟨rfl, rfl⟩ rfl (Nat.le_of_ble_eq_true rfl) (by exact nol rfl) ?_
  rintro r mm' o' ⟨rfl, rfl, rfl⟩
  refine wpx hC tkX4_finish hF [70] 200 ?_
  refine ⟨by decide, ⟨i0, i1⟩, ?_⟩
  rw [hn24]
  refine Wx.callV (x := iX4_finish) (y := iX7_newestCalibration) (k := 11) (avs := [_, _]) (rest := []) hC hN tkX4_finish rfl rfl kX7_newestCalibration rfl (M_newestCalibration _ _ _ (rd mm 26 x 8 / 24 + 1).toNat _ _ (by omega) j0 j1 hnn) ⟨rfl, rfl⟩ rfl (Nat.le_of_ble_eq_true rfl) (by exact nol rfl) ?_
  rintro r mm' o' ⟨rfl, rfl, rfl⟩
  rw [← eU]
  refine wpx hC tkX4_finish hF [70] 200 ?_
  refine ⟨fun q => ?_, fun q => ?_⟩
  · rw [wr_rd] at q
    exact tail 0 (by
      symm
      exact pif_t (by rw [eA]; exact q))
  · rw [wr_rd] at q
    exact tail 1 (by
      symm
      exact pif_f (by rw [eA]; exact q))
