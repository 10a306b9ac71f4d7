/-! ===== the model, XVII: the run; what is asked ===== -/
noncomputable def mruB (m : Mm) : Mm := pif (jrem (rd m 40 0 45) 24 = 0) (noM m (jdiv (rd m 40 0 45) 24)) m
noncomputable def mruT (m : Mm) : Mm := st m 40 0 45 (wr (rd m 40 0 45 + 1))
noncomputable def mruS (m : Mm) : Mm := mruT (slM (mruB m) (jdiv (rd m 40 0 45) 24) (jrem (rd m 40 0 45) 24))
noncomputable def mruM : Nat → Mm → Mm
  | 0, m => m
  | n + 1, m => pif (rd m 40 0 45 < 720) (mruM n (mruS m)) m
noncomputable def mruI : Nat → Int → Mm → Int
  | 0, i, _ => i
  | n + 1, i, m => pif (rd m 40 0 45 < 720) (mruI n (i + 1) (mruS m)) i
theorem rd_noM (m : Mm) (q : Int) (k : Nat) (i j : Int) (h : k < 87 ∨ 89 < k) : rd (noM m q) k i j = rd m k i j := by
  unfold noM noB noA
  refine fori_mk (P := fun m9 => rd m9 k i j = rd m k i j) (fun t m9 h9 => ?_) _ _ _ (fori_mk (P := fun m9 => rd m9 k i j = rd m k i j) (fun t m9 h9 => (rd_st_ne (by omega)).trans h9) _ _ _ rfl)
  unfold noB2 noB1
  rw [rd_st_ne (by omega), rd_st_ne (by omega), h9]
theorem MV_keep {m m' : Mm} (h : MV m) (he : ∀ (k : Nat) (i j : Int), k < 87 → rd m' k i j = rd m k i j) : MV m' :=
  MV_of h (fun k i j hk => he k i j (by unfold tq at hk; omega)) (VM_same h.2.1 (fun i => he _ _ _ (by decide))) (by rw [he _ _ _ (by decide)]; exact h.2.2)
theorem MV_mruB {m : Mm} (h : MV m) : MV (mruB m) := by
  unfold mruB
  by_cases q : jrem (rd m 40 0 45) 24 = 0
  · rw [pif_t q]; exact MV_keep h (fun k i j hk => rd_noM _ _ _ _ _ (Or.inl hk))
  · rw [pif_f q]; exact h
theorem rd_mruB (m : Mm) (k : Nat) (i j : Int) (h : k < 87) : rd (mruB m) k i j = rd m k i j := by
  unfold mruB
  by_cases q : jrem (rd m 40 0 45) 24 = 0
  · rw [pif_t q]; exact rd_noM _ _ _ _ _ (Or.inl h)
  · rw [pif_f q]
theorem s45 : sK 40 45 := by unfold sK; omega
theorem MV_mruT {m : Mm} (h : MV m) : MV (mruT m) := by
  unfold mruT
  exact MV_of h (fun k i j hk => by unfold tq at hk; rw [rd_st, if_neg (by omega)]) (VM_same h.2.1 (fun i => rd_st_ne (by decide))) (by rw [rd_st, if_neg (by omega)]; exact h.2.2)
theorem mru_keep {m : Mm} (h : MV m) (w0 : 0 ≤ rd m 40 0 45) (w1 : rd m 40 0 45 < 720) : MV (mruS m) ∧ rd (mruS m) 40 0 45 = rd m 40 0 45 + 1 := by
  refine ⟨MV_mruT (MV_slM (MV_mruB h) _ _), ?_⟩
  unfold mruS mruT
  rw [rd_st, if_pos ⟨rfl, rfl, rfl⟩, wr_wr, rd_slM _ _ _ _ _ _ s45, rd_mruB _ _ _ _ (by decide), wr_of (by omega) (by omega)]
noncomputable def mrnM (mm : Mm) (a : Int) : Mm := md E1 (rgC a 1 48) mm (fun m => mruM a.toNat m)
noncomputable def mrnR (mm : Mm) (a : Int) : Int := pif (rgC a 1 48 = none) (mruI a.toNat 0 (hold mm (cdX E1 (rgC a 1 48)))) (-1)
theorem MV_hold {mm : Mm} (h : MV mm) (z : Int) : MV (hold mm z) :=
  MV_of h (fun k i j hk => by unfold tq at hk; exact rd_hold _ _ _ _ _ (by omega)) (VM_same h.2.1 (fun i => rd_hold _ _ _ _ _ (by omega))) (by rw [rd_hold _ _ _ _ _ (by omega)]; exact h.2.2)
set_option maxRecDepth 100000 in
set_option maxHeartbeats 400000 in
theorem M_mrun (a : Int) (mm : Mm) (o : Int64) (ha : wr a = a) (hM : MV mm) (w0 : 0 ≤ rd mm 40 0 45) (w1 : rd mm 40 0 45 ≤ 720) : MetX iX11_run [xr 40 0, xi a] mm o (rto (xi (mrnR mm a)) (mrnM mm a) o) := by
  refine MetX.of 1 (by decide +kernel) rfl (Nat.le_of_ble_eq_true rfl) ⟨by decide, by decide⟩ ?_
  intro p l e s m args below meth c Q V D ad A hC hN hok hF
  have hj : ∀ z, cdX E1 (rgC a 1 48) = z → Wx p l e (mrm iX11_run) s m args below meth c 0 0 Q V D ad A 3 17 [(0, xr 40 0), (1, xi a)] [xi z, xr 40 0] mm o := by
    rintro z rfl
    refine Wx.callV (x := iX11_run) (y := iX11_holds) (k := 40) (avs := [_]) (rest := []) hC hN tkX11_run rfl rfl kX11_holds rfl (M_holdc _ _ _ _ (by decide)) ⟨rfl, rfl⟩ rfl (Nat.le_of_ble_eq_true rfl) (by exact nol rfl) ?_
    rintro r mm' o' ⟨rfl, rfl, rfl⟩
    refine wpx hC tkX11_run hF [27] 200 ?_
    refine ⟨fun q => ?_, fun q => ⟨congrArg (fun z => some (xi z)) (pif_f (yb q)).symm, md_s (yb q), rfl⟩⟩
    have hn := Classical.not_not.mp (nb q)
    obtain ⟨a0, a1⟩ := rg_of hn
    have hM0 := MV_hold hM (cdX E1 (rgC a 1 48))
    have e45 : rd (hold mm (cdX E1 (rgC a 1 48))) 40 0 45 = rd mm 40 0 45 := rd_hold _ _ _ _ _ (by omega)
    have loop : ∀ (n : Nat) (i : Int) (m9 : Mm), 0 ≤ i → i + n = a → MV m9 → 0 ≤ rd m9 40 0 45 → rd m9 40 0 45 ≤ 720 → mruI n i m9 = mrnR mm a → mruM n m9 = mrnM mm a → Wx p l e (mrm iX11_run) s m args below meth c 0 0 Q V D ad A 3 27 [(0, xr 40 0), (1, xi a), (2, xi i)] [] m9 o := by
      intro n
      induction n with
      | zero =>
        intro i m9 i0 hi h9 v0 v1 e1 e2
        refine wpx hC tkX11_run hF [27] 200 ?_
        refine ⟨fun q => ⟨congrArg (fun z => some (xi z)) e1, e2.symm, rfl⟩, fun q => ?_⟩
        rw [ha, wr_of (by omega) (by omega)] at q; omega
      | succ n ih =>
        intro i m9 i0 hi h9 v0 v1 e1 e2
        have join : ∀ m8, m8 = mruB m9 → rd m9 40 0 45 < 720 → Wx p l e (mrm iX11_run) s m args below meth c 0 0 Q V D ad A 3 63 [(0, xr 40 0), (1, xi a), (2, xi i)] [] m8 o := by
          intro m8 e8 hlt
          have h8 : MV m8 := by rw [e8]; exact MV_mruB h9
          have e5 : rd m8 40 0 45 = rd m9 40 0 45 := by rw [e8]; exact rd_mruB _ _ _ _ (by decide)
          have hk := mru_keep h9 v0 hlt
          have hd : jdiv (rd m8 40 0 45) 24 = rd m8 40 0 45 / 24 := jdiv_of (by omega) (by omega) (by decide) (by decide)
          have hr : jrem (rd m8 40 0 45) 24 = rd m8 40 0 45 % 24 := jrem_of (by omega) (by omega) (by decide) (by decide)
          refine wpx hC tkX11_run hF [27] 200 ?_
          refine ⟨by decide, by decide, ?_⟩
          refine Wx.callV (x := iX11_run) (y := iX11_slot) (k := 40) (avs := [_, _]) (rest := []) hC hN tkX11_run rfl rfl kX11_slot rfl (M_mslot _ _ _ _ h8 (by rw [hd]; omega) (by rw [hd]; omega) (by rw [hr]; omega) (by rw [hr]; omega)) ⟨rfl, rfl⟩ rfl (Nat.le_of_ble_eq_true rfl) (by exact nol rfl) ?_
          rintro r mm' o' ⟨rfl, rfl, rfl⟩
          refine wpx hC tkX11_run hF [27] 200 ?_
          have eS : mruT (slM m8 (jdiv (rd m8 40 0 45) 24) (jrem (rd m8 40 0 45) 24)) = mruS m9 := by rw [e5, e8]; rfl
          have h7 := ih (i + 1) (mruS m9) (by omega) (by omega) hk.1 (by omega) (by omega) (by rw [← e1]; exact (pif_t hlt).symm) (by rw [← e2]; exact (pif_t hlt).symm)
          rw [← eS] at h7
          exact h7
        have hd : jdiv (rd m9 40 0 45) 24 = rd m9 40 0 45 / 24 := jdiv_of (by omega) (by omega) (by decide) (by decide)
        have hr : jrem (rd m9 40 0 45) 24 = rd m9 40 0 45 % 24 := jrem_of (by omega) (by omega) (by decide) (by decide)
        refine wpx hC tkX11_run hF [27, 63] 200 ?_
        refine ⟨fun q => ?_, fun q => ⟨fun q2 => ?_, fun q2 => ⟨by decide, fun q3 => ?_, fun q3 => ⟨by decide, ?_⟩⟩⟩⟩
        · rw [ha, wr_of (by omega) (by omega)] at q; omega
        · rw [wr_rd, show wr 720 = 720 from rfl] at q2
          exact ⟨congrArg (fun z => some (xi z)) (by rw [← e1]; exact (pif_f (by omega)).symm), by rw [← e2]; exact pif_f (p := rd m9 40 0 45 < 720) (by omega), rfl⟩
        · rw [wr_rd, show wr 720 = 720 from rfl] at q2
          replace q3 : ¬ wr (jrem (rd m9 40 0 45) 24) = 0 := q3
          rw [wr_of (by omega) (by omega)] at q3
          exact join _ (pif_f q3).symm (by omega)
        · rw [wr_rd, show wr 720 = 720 from rfl] at q2
          replace q3 : wr (jrem (rd m9 40 0 45) 24) = 0 := q3
          rw [wr_of (by omega) (by omega)] at q3
          refine Wx.callV (x := iX11_run) (y := iX11_note) (k := 40) (avs := [_]) (rest := []) hC hN tkX11_run rfl rfl kX11_note rfl (M_note _ _ _ (by omega) (by omega)) ⟨rfl, rfl⟩ rfl (Nat.le_of_ble_eq_true rfl) (by exact nol rfl) ?_
          rintro r mm' o' ⟨rfl, rfl, rfl⟩
          exact join _ (pif_t q3).symm (by omega)
    exact loop a.toNat 0 _ (by decide) (by omega) hM0 (by omega) (by omega) (pif_t hn).symm (md_n hn).symm
  refine wpx hC tkX11_run hF [17] 200 ?_
  refine Wx.callV (x := iX11_run) (y := iX11_in) (k := 40) (avs := [_, _, _]) (rest := [_]) hC hN tkX11_run rfl rfl kX11_in rfl (M_in _ _ _ _ _ ha rfl rfl) ⟨rfl, rfl⟩ rfl (Nat.le_of_ble_eq_true rfl) (by exact nol rfl) ?_
  rintro r mm' o' ⟨rfl, rfl, rfl⟩
  refine wpx hC tkX11_run hF [17] 200 ?_
  exact ⟨fun q => hj 1 (cdy1_rg (nb q)), fun q => hj 0 (cdt_rg (yb q))⟩
