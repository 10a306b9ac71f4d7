/-! ===== the model, V: what is told ===== -/
noncomputable def proH (k a b c d : Int) : Option String := ck (ixC a 4) (ck (rgC b 0 9) (ck (rgC c 0 100) (ck (rgC d 0 30) (stC (bz (k < 8))))))
def proF (a b c d : Int) (m : Mm) : Mm := st (st (st (st (st m 49 0 (rd m 40 0 12) (wr a)) 50 0 (rd m 40 0 12) (wr b)) 51 0 (rd m 40 0 12) (wr c)) 52 0 (rd m 40 0 12) (wr d)) 40 0 12 (wr (rd m 40 0 12 + 1))
noncomputable def proM (mm : Mm) (a b c d : Int) : Mm := md E0 (proH (rd mm 40 0 12) a b c d) mm (proF a b c d)
noncomputable def proR (mm : Mm) (a b c d : Int) : Int := pif (proH (rd mm 40 0 12) a b c d = none) (rd (proM mm a b c d) 40 0 12 - 1) (-1)
theorem ck_of2 {a b : Option String} (h : ck a b = none) : b = none := (ck_of h).2
theorem st_of {P : Prop} (h : stC (bz P) = none) : P := by
  by_cases q : P
  · exact q
  · rw [bz_f q] at h; exact absurd h (by decide)
set_option maxRecDepth 100000 in
set_option maxHeartbeats 400000 in
theorem M_mproposal (a b c9 d9 : Int) (mm : Mm) (o : Int64) (ha : wr a = a) (hb : wr b = b) (hc : wr c9 = c9) (hd : wr d9 = d9) (k0 : 0 ≤ rd mm 40 0 12) (k1 : rd mm 40 0 12 ≤ 8) : MetX iX11_proposal [xr 40 0, xi a, xi b, xi c9, xi d9] mm o (rto (xi (proR mm a b c9 d9)) (proM mm a b c9 d9) o) := by
  refine MetX.of 1 (by decide +kernel) rfl (Nat.le_of_ble_eq_true rfl) ⟨by decide, by decide⟩ ?_
  intro p l e s m args below meth c Q V D ad A hC hN hok hF
  have hj : ∀ z, cdX E0 (proH (rd mm 40 0 12) a b c9 d9) = z → ∀ w, Wx p l e (mrm iX11_proposal) s m args below meth c 0 0 Q V D ad A 6 77 [(0, xr 40 0), (1, xi a), (2, xi b), (3, xi c9), (4, xi d9), (5, xi w)] [xi z, xr 40 0] mm o := by
    rintro z rfl w
    refine Wx.callV (x := iX11_proposal) (y := iX11_holds) (k := 40) (avs := [_]) (rest := []) hC hN tkX11_proposal rfl rfl kX11_holds rfl (M_holdc _ _ _ _ (by decide)) ⟨rfl, rfl⟩ rfl (Nat.le_of_ble_eq_true rfl) (by exact nol rfl) ?_
    rintro r mm' o' ⟨rfl, rfl, rfl⟩
    refine wpx hC tkX11_proposal hF [] 200 ?_
    refine ⟨fun q => ?_, fun q => ⟨congrArg (fun z => some (xi z)) (pif_f (yb q)).symm, md_s (yb q), rfl⟩⟩
    have hn := Classical.not_not.mp (nb q)
    have hk : rd (hold mm (cdX E0 (proH (rd mm 40 0 12) a b c9 d9))) 40 0 12 = rd mm 40 0 12 := rd_hold _ _ _ _ _ (by decide)
    have hs := st_of (ck_of2 (ck_of2 (ck_of2 (ck_of2 hn))))
    have hi : 0 ≤ rd (hold mm (cdX E0 (proH (rd mm 40 0 12) a b c9 d9))) 40 0 12 ∧ rd (hold mm (cdX E0 (proH (rd mm 40 0 12) a b c9 d9))) 40 0 12 < 8 := by omega
    have hM : proM mm a b c9 d9 = proF a b c9 d9 (hold mm (cdX E0 (proH (rd mm 40 0 12) a b c9 d9))) := md_n hn
    exact ⟨hi, hi, hi, hi, congrArg (fun z => some (xi z)) (by unfold proR; rw [pif_t hn, hM]; rfl), hM, rfl⟩
  have hf : ∀ w, ((¬ w = 0) → (0 ≤ b ∧ b ≤ 9) ∧ (0 ≤ c9 ∧ c9 ≤ 100) ∧ (0 ≤ d9 ∧ d9 ≤ 30)) → (w = 0 → ¬ ((0 ≤ b ∧ b ≤ 9) ∧ (0 ≤ c9 ∧ c9 ≤ 100) ∧ (0 ≤ d9 ∧ d9 ≤ 30))) → wr w = w → Wx p l e (mrm iX11_proposal) s m args below meth c 0 0 Q V D ad A 6 39 [(0, xr 40 0), (1, xi a), (2, xi b), (3, xi c9), (4, xi d9)] [xi w] mm o := by
    intro w h1 h0 hw
    unfold proH at hj
    refine wpx hC tkX11_proposal hF [77] 200 ?_
    refine Wx.callV (x := iX11_proposal) (y := iX11_isGroup) (k := 40) (avs := [_]) (rest := [_]) hC hN tkX11_proposal rfl rfl kX11_isGroup rfl (M_isGroup _ _ _ ha) ⟨rfl, rfl⟩ rfl (Nat.le_of_ble_eq_true rfl) (by exact nol rfl) ?_
    rintro r mm' o' ⟨rfl, rfl, rfl⟩
    refine wpx hC tkX11_proposal hF [77] 200 ?_
    refine ⟨fun q => ?_, fun q => hj 1 (cdx_ix (fun h => nb q (by omega))) _⟩
    have qa : 0 ≤ a ∧ a < 4 := by have := yb q; omega
    refine ⟨fun q2 => ?_, fun q2 => ?_⟩
    · rw [hw] at q2
      obtain ⟨qb, qc, qd⟩ := h1 q2
      refine ⟨fun q3 => hj 0 ?_ _, fun q3 => hj 3 ?_ _⟩
      · rw [wr_rd, show wr 8 = 8 from rfl] at q3
        rw [ck_ln (ix_t qa), ck_ln (rg_t qb), ck_ln (rg_t qc), ck_ln (rg_t qd)]; exact cdt_st (by omega)
      · rw [wr_rd, show wr 8 = 8 from rfl] at q3
        rw [ck_ln (ix_t qa), ck_ln (rg_t qb), ck_ln (rg_t qc), ck_ln (rg_t qd)]; exact cdy_st (by omega)
    · rw [hw] at q2
      have h2 := h0 q2
      refine hj 2 ?_ _
      rw [ck_ln (ix_t qa)]
      by_cases qb : 0 ≤ b ∧ b ≤ 9
      · rw [ck_ln (rg_t qb)]
        by_cases qc : 0 ≤ c9 ∧ c9 ≤ 100
        · rw [ck_ln (rg_t qc)]
          exact cdx_rg (fun qd => h2 ⟨qb, qc, qd⟩)
        · exact cdx_rg qc
      · exact cdx_rg qb
  refine wpx hC tkX11_proposal hF [39] 200 ?_
  refine Wx.callV (x := iX11_proposal) (y := iX11_in) (k := 40) (avs := [_, _, _]) (rest := []) hC hN tkX11_proposal rfl rfl kX11_in rfl (M_in _ _ _ _ _ hb rfl rfl) ⟨rfl, rfl⟩ rfl (Nat.le_of_ble_eq_true rfl) (by exact nol rfl) ?_
  rintro r mm' o' ⟨rfl, rfl, rfl⟩
  refine wpx hC tkX11_proposal hF [39] 200 ?_
  refine ⟨fun q => hf 0 (fun h => absurd rfl h) (fun _ h => nb q h.1) rfl, fun q1 => ?_⟩
  refine Wx.callV (x := iX11_proposal) (y := iX11_in) (k := 40) (avs := [_, _, _]) (rest := []) hC hN tkX11_proposal rfl rfl kX11_in rfl (M_in _ _ _ _ _ hc rfl rfl) ⟨rfl, rfl⟩ rfl (Nat.le_of_ble_eq_true rfl) (by exact nol rfl) ?_
  rintro r mm' o' ⟨rfl, rfl, rfl⟩
  refine wpx hC tkX11_proposal hF [39] 200 ?_
  refine ⟨fun q => hf 0 (fun h => absurd rfl h) (fun _ h => nb q h.2.1) rfl, fun q2 => ?_⟩
  refine Wx.callV (x := iX11_proposal) (y := iX11_in) (k := 40) (avs := [_, _, _]) (rest := []) hC hN tkX11_proposal rfl rfl kX11_in rfl (M_in _ _ _ _ _ hd rfl rfl) ⟨rfl, rfl⟩ rfl (Nat.le_of_ble_eq_true rfl) (by exact nol rfl) ?_
  rintro r mm' o' ⟨rfl, rfl, rfl⟩
  refine wpx hC tkX11_proposal hF [39] 200 ?_
  exact ⟨fun q => hf 0 (fun h => absurd rfl h) (fun _ h => nb q h.2.2) rfl, fun q3 => hf 1 (fun _ => ⟨yb q1, yb q2, yb q3⟩) (fun h => absurd h (by decide)) rfl⟩
def layC (m : Mm) (i f a b c d : Int) : Mm := st (st (st (st (st m 54 0 i (wr f)) 55 0 i (wr a)) 56 0 i (wr b)) 57 0 i (wr c)) 58 0 i (wr d)
set_option maxRecDepth 100000 in
set_option maxHeartbeats 400000 in
theorem M_lay (i f a b c9 d9 : Int) (mm : Mm) (o : Int64) (i0 : 0 ≤ i) (i1 : i < 34) : MetX iX11_lay [xr 40 0, xi i, xi f, xi a, xi b, xi c9, xi d9] mm o (rtv (layC mm i f a b c9 d9) o) := by
  refine MetX.of 0 (by decide +kernel) rfl (Nat.le_of_ble_eq_true rfl) ⟨by decide, by decide⟩ ?_
  intro p l e s m args below meth c Q V D ad A hC hN hok hF
  refine wpx hC tkX11_lay hF [] 200 ?_
  exact ⟨⟨i0, i1⟩, ⟨i0, i1⟩, ⟨i0, i1⟩, ⟨i0, i1⟩, ⟨i0, i1⟩, rfl, rfl, rfl⟩
def tgtP (b c d f g h v : Int) : Prop := ((0 ≤ b ∧ b ≤ 359) ∧ (-90 ≤ c ∧ c ≤ 90)) ∧ (1 ≤ d ∧ d ≤ 6) ∧ (0 ≤ f ∧ f ≤ 90) ∧ (0 ≤ g ∧ g ≤ 100) ∧ (1 ≤ h ∧ h ≤ 50) ∧ (1 ≤ v ∧ v ≤ 10)
noncomputable def tgtH (np nt a b c d e f g h v : Int) : Option String := ck (ixC a np) (ck (ixC e 3) (ck (ck (rgC b 0 359) (rgC c (-90) 90)) (ck (rgC d 1 6) (ck (rgC f 0 90) (ck (rgC g 0 100) (ck (rgC h 1 50) (ck (rgC v 1 10) (stC (bz (nt < 24)))))))))) 
theorem tgt_1 {np nt a b c d e f g h v : Int} (q : ¬ ((0 ≤ a ∧ a < np) ∧ (0 ≤ e ∧ e < 3))) : cdX E0 (tgtH np nt a b c d e f g h v) = 1 := by
  unfold tgtH
  by_cases qa : 0 ≤ a ∧ a < np
  · rw [ck_ln (ix_t qa)]
    exact cdx_ix (fun h => q ⟨qa, h⟩)
  · exact cdx_ix qa
theorem tgt_2 {np nt a b c d e f g h v : Int} (qa : 0 ≤ a ∧ a < np) (qe : 0 ≤ e ∧ e < 3) (q : ¬ tgtP b c d f g h v) : cdX E0 (tgtH np nt a b c d e f g h v) = 2 := by
  unfold tgtH
  unfold tgtP at q
  rw [ck_ln (ix_t qa), ck_ln (ix_t qe), ck_ck]
  by_cases q1 : 0 ≤ b ∧ b ≤ 359
  · rw [ck_ln (rg_t q1)]
    by_cases q2 : -90 ≤ c ∧ c ≤ 90
    · rw [ck_ln (rg_t q2)]
      by_cases q3 : 1 ≤ d ∧ d ≤ 6
      · rw [ck_ln (rg_t q3)]
        by_cases q4 : 0 ≤ f ∧ f ≤ 90
        · rw [ck_ln (rg_t q4)]
          by_cases q5 : 0 ≤ g ∧ g ≤ 100
          · rw [ck_ln (rg_t q5)]
            by_cases q6 : 1 ≤ h ∧ h ≤ 50
            · rw [ck_ln (rg_t q6)]
              exact cdx_rg (fun q7 => q ⟨⟨q1, q2⟩, q3, q4, q5, q6, q7⟩)
            · exact cdx_rg q6
          · exact cdx_rg q5
        · exact cdx_rg q4
      · exact cdx_rg q3
    · exact cdx_rg q2
  · exact cdx_rg q1
theorem tgt_e {np nt a b c d e f g h v : Int} (qa : 0 ≤ a ∧ a < np) (qe : 0 ≤ e ∧ e < 3) (q : tgtP b c d f g h v) : tgtH np nt a b c d e f g h v = stC (bz (nt < 24)) := by
  obtain ⟨⟨q1, q2⟩, q3, q4, q5, q6, q7⟩ := q
  unfold tgtH
  rw [ck_ln (ix_t qa), ck_ln (ix_t qe), ck_ck, ck_ln (rg_t q1), ck_ln (rg_t q2), ck_ln (rg_t q3), ck_ln (rg_t q4), ck_ln (rg_t q5), ck_ln (rg_t q6), ck_ln (rg_t q7)]
def tgtF (a b c d e f g h v : Int) (m : Mm) : Mm := st (st (st (st (st (st (layC m (rd m 40 0 25) a b c d e) 59 0 (rd m 40 0 25) (wr f)) 60 0 (rd m 40 0 25) (wr g)) 61 0 (rd m 40 0 25) (wr h)) 62 0 (rd m 40 0 25) (wr v)) 63 0 (rd m 40 0 25) (wr (-1))) 40 0 25 (wr (rd m 40 0 25 + 1))
noncomputable def tgtM (mm : Mm) (a b c d e f g h v : Int) : Mm := md E0 (tgtH (rd mm 40 0 12) (rd mm 40 0 25) a b c d e f g h v) mm (tgtF a b c d e f g h v)
noncomputable def tgtR (mm : Mm) (a b c d e f g h v : Int) : Int := pif (tgtH (rd mm 40 0 12) (rd mm 40 0 25) a b c d e f g h v = none) (rd (tgtM mm a b c d e f g h v) 40 0 25 - 1) (-1)
set_option maxRecDepth 100000 in
set_option maxHeartbeats 400000 in
theorem M_mtarget (a b c0 d0 e0 f0 g0 h0 v0 : Int) (mm : Mm) (o : Int64) (ha : wr a = a) (hb : wr b = b) (hc : wr c0 = c0) (hd : wr d0 = d0) (he : wr e0 = e0) (hf0 : wr f0 = f0) (hg : wr g0 = g0) (hh : wr h0 = h0) (hv : wr v0 = v0) (p0 : 0 ≤ rd mm 40 0 12) (k0 : 0 ≤ rd mm 40 0 25) (k1 : rd mm 40 0 25 ≤ 24) : MetX iX11_target [xr 40 0, xi a, xi b, xi c0, xi d0, xi e0, xi f0, xi g0, xi h0, xi v0] mm o (rto (xi (tgtR mm a b c0 d0 e0 f0 g0 h0 v0)) (tgtM mm a b c0 d0 e0 f0 g0 h0 v0) o) := by
  refine MetX.of 1 (by decide +kernel) rfl (Nat.le_of_ble_eq_true rfl) ⟨by decide, by decide⟩ ?_
  intro p l e s m args below meth c Q V D ad A hC hN hok hF
  have hj : ∀ z, cdX E0 (tgtH (rd mm 40 0 12) (rd mm 40 0 25) a b c0 d0 e0 f0 g0 h0 v0) = z → ∀ w x, Wx p l e (mrm iX11_target) s m args below meth c 0 0 Q V D ad A 12 142 [(0, xr 40 0), (1, xi a), (2, xi b), (3, xi c0), (4, xi d0), (5, xi e0), (6, xi f0), (7, xi g0), (8, xi h0), (9, xi v0), (10, xi w), (11, xi x)] [xi z, xr 40 0] mm o := by
    rintro z rfl w x
    refine Wx.callV (x := iX11_target) (y := iX11_holds) (k := 40) (avs := [_]) (rest := []) hC hN tkX11_target rfl rfl kX11_holds rfl (M_holdc _ _ _ _ (by decide)) ⟨rfl, rfl⟩ rfl (Nat.le_of_ble_eq_true rfl) (by exact nol rfl) ?_
    rintro r mm' o' ⟨rfl, rfl, rfl⟩
    refine wpx hC tkX11_target hF [] 200 ?_
    refine ⟨fun q => ?_, fun q => ⟨congrArg (fun z => some (xi z)) (pif_f (yb q)).symm, md_s (yb q), rfl⟩⟩
    have hn := Classical.not_not.mp (nb q)
    have hk : rd (hold mm (cdX E0 (tgtH (rd mm 40 0 12) (rd mm 40 0 25) a b c0 d0 e0 f0 g0 h0 v0))) 40 0 25 = rd mm 40 0 25 := rd_hold _ _ _ _ _ (by decide)
    have hs := st_of (ck_of2 (ck_of2 (ck_of2 (ck_of2 (ck_of2 (ck_of2 (ck_of2 (ck_of2 hn))))))))
    have hi : 0 ≤ rd (hold mm (cdX E0 (tgtH (rd mm 40 0 12) (rd mm 40 0 25) a b c0 d0 e0 f0 g0 h0 v0))) 40 0 25 ∧ rd (hold mm (cdX E0 (tgtH (rd mm 40 0 12) (rd mm 40 0 25) a b c0 d0 e0 f0 g0 h0 v0))) 40 0 25 < 24 := by omega
    have hM : tgtM mm a b c0 d0 e0 f0 g0 h0 v0 = tgtF a b c0 d0 e0 f0 g0 h0 v0 (hold mm (cdX E0 (tgtH (rd mm 40 0 12) (rd mm 40 0 25) a b c0 d0 e0 f0 g0 h0 v0))) := md_n hn
    have hi3 : 0 ≤ rd (hold mm (cdX E0 (tgtH (rd mm 40 0 12) (rd mm 40 0 25) a b c0 d0 e0 f0 g0 h0 v0))) 40 0 25 ∧ rd (hold mm (cdX E0 (tgtH (rd mm 40 0 12) (rd mm 40 0 25) a b c0 d0 e0 f0 g0 h0 v0))) 40 0 25 < 34 := by omega
    refine Wx.callV (x := iX11_target) (y := iX11_lay) (k := 40) (avs := [_, _, _, _, _, _]) (rest := []) hC hN tkX11_target rfl rfl kX11_lay rfl (M_lay _ _ _ _ _ _ _ _ hi.1 (by omega)) ⟨rfl, rfl⟩ rfl (Nat.le_of_ble_eq_true rfl) (by exact nol rfl) ?_
    rintro r mm' o' ⟨rfl, rfl, rfl⟩
    refine wpx hC tkX11_target hF [] 200 ?_
    exact ⟨hi3, hi3, hi3, hi, hi, congrArg (fun z => some (xi z)) (by unfold tgtR; rw [pif_t hn, hM]; rfl), hM, rfl⟩
  have hg2 : ∀ w x, ((¬ w = 0) → (0 ≤ a ∧ a < rd mm 40 0 12) ∧ (0 ≤ e0 ∧ e0 < 3)) → (w = 0 → ¬ ((0 ≤ a ∧ a < rd mm 40 0 12) ∧ (0 ≤ e0 ∧ e0 < 3))) → wr w = w → ((¬ x = 0) → tgtP b c0 d0 f0 g0 h0 v0) → (x = 0 → ¬ tgtP b c0 d0 f0 g0 h0 v0) → wr x = x → Wx p l e (mrm iX11_target) s m args below meth c 0 0 Q V D ad A 12 107 [(0, xr 40 0), (1, xi a), (2, xi b), (3, xi c0), (4, xi d0), (5, xi e0), (6, xi f0), (7, xi g0), (8, xi h0), (9, xi v0), (10, xi w)] [xi x] mm o := by
    intro w x h1 h9 hw h2 h8 hx
    refine wpx hC tkX11_target hF [142] 200 ?_
    refine ⟨fun q => ⟨fun q2 => ⟨fun q3 => hj 0 ?_ _ _, fun q3 => hj 3 ?_ _ _⟩, fun q2 => hj 2 ?_ _ _⟩, fun q => hj 1 ?_ _ _⟩
    · rw [hw] at q; rw [hx] at q2
      rw [wr_rd, show wr 24 = 24 from rfl] at q3
      rw [tgt_e (h1 q).1 (h1 q).2 (h2 q2)]; exact cdt_st (by omega)
    · rw [hw] at q; rw [hx] at q2
      rw [wr_rd, show wr 24 = 24 from rfl] at q3
      rw [tgt_e (h1 q).1 (h1 q).2 (h2 q2)]; exact cdy_st (by omega)
    · rw [hw] at q; rw [hx] at q2
      exact tgt_2 (h1 q).1 (h1 q).2 (h8 q2)
    · rw [hw] at q
      exact tgt_1 (h9 q)
  have hf : ∀ w, ((¬ w = 0) → (0 ≤ a ∧ a < rd mm 40 0 12) ∧ (0 ≤ e0 ∧ e0 < 3)) → (w = 0 → ¬ ((0 ≤ a ∧ a < rd mm 40 0 12) ∧ (0 ≤ e0 ∧ e0 < 3))) → wr w = w → Wx p l e (mrm iX11_target) s m args below meth c 0 0 Q V D ad A 12 31 [(0, xr 40 0), (1, xi a), (2, xi b), (3, xi c0), (4, xi d0), (5, xi e0), (6, xi f0), (7, xi g0), (8, xi h0), (9, xi v0)] [xi w] mm o := by
    intro w h1 h9 hw
    have no : ¬ tgtP b c0 d0 f0 g0 h0 v0 → _ := fun h => hg2 w 0 h1 h9 hw (fun q => absurd rfl q) (fun _ => h) rfl
    refine wpx hC tkX11_target hF [107] 200 ?_
    refine Wx.callV (x := iX11_target) (y := iX11_isPlace) (k := 40) (avs := [_, _]) (rest := []) hC hN tkX11_target rfl rfl kX11_isPlace rfl (M_isPlace _ _ _ _ hb hc) ⟨rfl, rfl⟩ rfl (Nat.le_of_ble_eq_true rfl) (by exact nol rfl) ?_
    rintro r mm' o' ⟨rfl, rfl, rfl⟩
    refine wpx hC tkX11_target hF [107] 200 ?_
    refine ⟨fun q => no (fun h => nb q h.1), fun q1 => ?_⟩
    refine Wx.callV (x := iX11_target) (y := iX11_in) (k := 40) (avs := [_, _, _]) (rest := []) hC hN tkX11_target rfl rfl kX11_in rfl (M_in _ _ _ _ _ hd rfl rfl) ⟨rfl, rfl⟩ rfl (Nat.le_of_ble_eq_true rfl) (by exact nol rfl) ?_
    rintro r mm' o' ⟨rfl, rfl, rfl⟩
    refine wpx hC tkX11_target hF [107] 200 ?_
    refine ⟨fun q => no (fun h => nb q h.2.1), fun q2 => ?_⟩
    refine Wx.callV (x := iX11_target) (y := iX11_in) (k := 40) (avs := [_, _, _]) (rest := []) hC hN tkX11_target rfl rfl kX11_in rfl (M_in _ _ _ _ _ hf0 rfl rfl) ⟨rfl, rfl⟩ rfl (Nat.le_of_ble_eq_true rfl) (by exact nol rfl) ?_
    rintro r mm' o' ⟨rfl, rfl, rfl⟩
    refine wpx hC tkX11_target hF [107] 200 ?_
    refine ⟨fun q => no (fun h => nb q h.2.2.1), fun q3 => ?_⟩
    refine Wx.callV (x := iX11_target) (y := iX11_in) (k := 40) (avs := [_, _, _]) (rest := []) hC hN tkX11_target rfl rfl kX11_in rfl (M_in _ _ _ _ _ hg rfl rfl) ⟨rfl, rfl⟩ rfl (Nat.le_of_ble_eq_true rfl) (by exact nol rfl) ?_
    rintro r mm' o' ⟨rfl, rfl, rfl⟩
    refine wpx hC tkX11_target hF [107] 200 ?_
    refine ⟨fun q => no (fun h => nb q h.2.2.2.1), fun q4 => ?_⟩
    refine Wx.callV (x := iX11_target) (y := iX11_in) (k := 40) (avs := [_, _, _]) (rest := []) hC hN tkX11_target rfl rfl kX11_in rfl (M_in _ _ _ _ _ hh rfl rfl) ⟨rfl, rfl⟩ rfl (Nat.le_of_ble_eq_true rfl) (by exact nol rfl) ?_
    rintro r mm' o' ⟨rfl, rfl, rfl⟩
    refine wpx hC tkX11_target hF [107] 200 ?_
    refine ⟨fun q => no (fun h => nb q h.2.2.2.2.1), fun q5 => ?_⟩
    refine Wx.callV (x := iX11_target) (y := iX11_in) (k := 40) (avs := [_, _, _]) (rest := []) hC hN tkX11_target rfl rfl kX11_in rfl (M_in _ _ _ _ _ hv rfl rfl) ⟨rfl, rfl⟩ rfl (Nat.le_of_ble_eq_true rfl) (by exact nol rfl) ?_
    rintro r mm' o' ⟨rfl, rfl, rfl⟩
    refine wpx hC tkX11_target hF [107] 200 ?_
    exact ⟨fun q => no (fun h => nb q h.2.2.2.2.2), fun q6 => hg2 w 1 h1 h9 hw (fun _ => ⟨yb q1, yb q2, yb q3, yb q4, yb q5, yb q6⟩) (fun h => absurd h (by decide)) rfl⟩
  have hr := rd_hi mm 40 0 12
  refine wpx hC tkX11_target hF [31] 200 ?_
  refine Wx.callV (x := iX11_target) (y := iX11_in) (k := 40) (avs := [_, _, _]) (rest := []) hC hN tkX11_target rfl rfl kX11_in rfl (M_in _ _ _ _ _ ha rfl (wr_of (by omega) (by omega))) ⟨rfl, rfl⟩ rfl (Nat.le_of_ble_eq_true rfl) (by exact nol rfl) ?_
  rintro r mm' o' ⟨rfl, rfl, rfl⟩
  refine wpx hC tkX11_target hF [31] 200 ?_
  refine ⟨fun q => hf 0 (fun h => absurd rfl h) (fun _ h => nb q (by omega)) rfl, fun q1 => ?_⟩
  refine Wx.callV (x := iX11_target) (y := iX11_in) (k := 40) (avs := [_, _, _]) (rest := []) hC hN tkX11_target rfl rfl kX11_in rfl (M_in _ _ _ _ _ he rfl rfl) ⟨rfl, rfl⟩ rfl (Nat.le_of_ble_eq_true rfl) (by exact nol rfl) ?_
  rintro r mm' o' ⟨rfl, rfl, rfl⟩
  refine wpx hC tkX11_target hF [31] 200 ?_
  exact ⟨fun q => hf 0 (fun h => absurd rfl h) (fun _ h => nb q (by omega)) rfl, fun q2 => hf 1 (fun _ => by have := yb q1; have := yb q2; omega) (fun h => absurd h (by decide)) rfl⟩
