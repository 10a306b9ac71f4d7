/-! ===== the model, XIX: reads; orders ===== -/
def reaH (nd a b c : Int) : Option String := ck (ixC a 4) (ck (ixC b nd) (ixC c 30))
def reaN (m : Mm) (b c : Int) : Int := c - jdiv (rd m 95 0 b) 24
noncomputable def reaP (m : Mm) (a b c : Int) : Prop := 0 ≤ wr (reaN m b c) ∧ (23 < rd m 93 0 b ∨ rd m 52 0 (rd m 54 0 (rd m 93 0 b)) < wr (reaN m b c) ∨ rd m 49 0 (rd m 54 0 (rd m 93 0 b)) = a)
noncomputable def reaR (mm : Mm) (a b c : Int) : Int := pif (reaH (rd mm 40 0 58) a b c = none) (bz (reaP (hold mm (cdX E0 (reaH (rd mm 40 0 58) a b c))) a b c)) 0
set_option maxRecDepth 100000 in
set_option maxHeartbeats 400000 in
theorem M_mreads (a b c9 : Int) (mm : Mm) (o : Int64) (ha : wr a = a) (hb : wr b = b) (hc : wr c9 = c9) (hI : IM mm) (d0 : 0 ≤ rd mm 40 0 58) (d1 : rd mm 40 0 58 ≤ 100) (hd : ∀ b, 0 ≤ b → b < rd mm 40 0 58 → 0 ≤ rd mm 93 0 b) : MetX iX11_reads [xr 40 0, xi a, xi b, xi c9] mm o (rto (xi (reaR mm a b c9)) (hold mm (cdX E0 (reaH (rd mm 40 0 58) a b c9))) o) := by
  refine MetX.of 2 (by decide +kernel) rfl (Nat.le_of_ble_eq_true rfl) ⟨by decide, by decide⟩ ?_
  intro p l e s m args below meth c Q V D ad A hC hN hok hF
  have hj : ∀ z, cdX E0 (reaH (rd mm 40 0 58) a b c9) = z → Wx p l e (mrm iX11_reads) s m args below meth c 0 0 Q V D ad A 6 30 [(0, xr 40 0), (1, xi a), (2, xi b), (3, xi c9)] [xi z, xr 40 0] mm o := by
    rintro z rfl
    refine Wx.callV (x := iX11_reads) (y := iX11_holds) (k := 40) (avs := [_]) (rest := []) hC hN tkX11_reads rfl rfl kX11_holds rfl (M_holdc _ _ _ _ (by decide)) ⟨rfl, rfl⟩ rfl (Nat.le_of_ble_eq_true rfl) (by exact nol rfl) ?_
    rintro r mm' o' ⟨rfl, rfl, rfl⟩
    refine wpx hC tkX11_reads hF [] 200 ?_
    refine ⟨fun q => ?_, fun q => ⟨Or.inl rfl, congrArg (fun z => some (xi z)) (pif_f (yb q)).symm, rfl, rfl⟩⟩
    have hn := Classical.not_not.mp (nb q)
    obtain ⟨b0, b1⟩ := ix_of (ck_of (ck_of hn).2).1
    have eR : reaR mm a b c9 = bz (reaP (hold mm (cdX E0 (reaH (rd mm 40 0 58) a b c9))) a b c9) := pif_t hn
    have hI9 : IM (hold mm (cdX E0 (reaH (rd mm 40 0 58) a b c9))) := IM_hold hI _
    have hd9 : 0 ≤ rd (hold mm (cdX E0 (reaH (rd mm 40 0 58) a b c9))) 93 0 b := by rw [rd_hold _ _ _ _ _ (by omega)]; exact hd b b0 b1
    rw [eR]
    generalize hold mm (cdX E0 (reaH (rd mm 40 0 58) a b c9)) = m9 at hI9 hd9 ⊢
    have b2 : 0 ≤ b ∧ b < 100 := by omega
    have no : ¬ reaP m9 a b c9 → some (xi 0) = some (xi (bz (reaP m9 a b c9))) := fun h => congrArg (fun z => some (xi z)) (bz_f h).symm
    have yes : reaP m9 a b c9 → some (xi 1) = some (xi (bz (reaP m9 a b c9))) := fun h => congrArg (fun z => some (xi z)) (bz_t h).symm
    refine ⟨b2, by decide, b2, fun q2 => ⟨Or.inl rfl, no (fun h => ?_), rfl, rfl⟩, fun q2 => ⟨fun q3 => ⟨Or.inr rfl, yes ⟨?_, Or.inl ?_⟩, rfl, rfl⟩, fun q3 => ?_⟩⟩
    · have := h.1
      replace q2 : wr (reaN m9 b c9) < 0 := q2
      omega
    · replace q2 : ¬ wr (reaN m9 b c9) < 0 := q2
      omega
    · rw [wr_rd, show wr 23 = 23 from rfl] at q3; exact q3
    replace q2 : ¬ wr (reaN m9 b c9) < 0 := q2
    rw [wr_rd, show wr 23 = 23 from rfl] at q3
    have w2 : 0 ≤ rd m9 93 0 b ∧ rd m9 93 0 b < 34 := by omega
    obtain ⟨o1, -⟩ := hI9.2.2.2.1 _ w2.1 w2.2
    refine ⟨w2, o1, fun q4 => ⟨Or.inr rfl, yes ⟨by omega, Or.inr (Or.inl ?_)⟩, rfl, rfl⟩, fun q4 => ⟨w2, o1, fun q5 => ⟨Or.inl rfl, no (fun h => ?_), rfl, rfl⟩, fun q5 => ⟨Or.inr rfl, yes ⟨by omega, Or.inr (Or.inr ?_)⟩, rfl, rfl⟩⟩⟩
    · replace q4 : wr (rd m9 52 0 (rd m9 54 0 (rd m9 93 0 b))) < wr (reaN m9 b c9) := q4
      rw [wr_rd] at q4; exact q4
    · replace q4 : ¬ wr (rd m9 52 0 (rd m9 54 0 (rd m9 93 0 b))) < wr (reaN m9 b c9) := q4
      rw [wr_rd] at q4
      rw [wr_rd, ha] at q5
      rcases h.2 with h2 | h2 | h2
      · omega
      · exact q4 h2
      · exact q5 h2
    · rw [wr_rd, ha] at q5; exact q5
  unfold reaH at hj
  refine wpx hC tkX11_reads hF [30] 200 ?_
  refine Wx.callV (x := iX11_reads) (y := iX11_isGroup) (k := 40) (avs := [_]) (rest := [_]) hC hN tkX11_reads rfl rfl kX11_isGroup rfl (M_isGroup _ _ _ ha) ⟨rfl, rfl⟩ rfl (Nat.le_of_ble_eq_true rfl) (by exact nol rfl) ?_
  rintro r mm' o' ⟨rfl, rfl, rfl⟩
  refine wpx hC tkX11_reads hF [30] 200 ?_
  refine ⟨fun q => hj 1 (cdx_ix (fun h => nb q (by omega))), fun q1 => ?_⟩
  have qa : 0 ≤ a ∧ a < 4 := by have := yb q1; omega
  refine Wx.callV (x := iX11_reads) (y := iX11_isData) (k := 40) (avs := [_]) (rest := [_]) hC hN tkX11_reads rfl rfl kX11_isData rfl (M_isData _ _ _ hb d0) ⟨rfl, rfl⟩ rfl (Nat.le_of_ble_eq_true rfl) (by exact nol rfl) ?_
  rintro r mm' o' ⟨rfl, rfl, rfl⟩
  refine wpx hC tkX11_reads hF [30] 200 ?_
  refine ⟨fun q => hj 1 (by rw [ck_ln (ix_t qa)]; exact cdx_ix (fun h => nb q (by omega))), fun q2 => ?_⟩
  have qb : 0 ≤ b ∧ b < rd mm 40 0 58 := by have := yb q2; omega
  refine Wx.callV (x := iX11_reads) (y := iX11_isNight) (k := 40) (avs := [_]) (rest := [_]) hC hN tkX11_reads rfl rfl kX11_isNight rfl (M_isNight _ _ _ hc) ⟨rfl, rfl⟩ rfl (Nat.le_of_ble_eq_true rfl) (by exact nol rfl) ?_
  rintro r mm' o' ⟨rfl, rfl, rfl⟩
  refine wpx hC tkX11_reads hF [30] 200 ?_
  exact ⟨fun q => hj 1 (by rw [ck_ln (ix_t qa), ck_ln (ix_t qb)]; exact cdy_ix (fun h => nb q (by omega))), fun q => hj 0 (by rw [ck_ln (ix_t qa), ck_ln (ix_t qb)]; exact cdt_ix (by have := yb q; omega))⟩
