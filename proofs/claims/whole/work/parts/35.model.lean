/-! ===== the model, VI: series, alerts, wishes ===== -/
noncomputable def serH (nt fr a b c d : Int) : Option String := ck (ixC a nt) (ck (ixC b 30) (ck (rgC c 1 30) (ck (rgC d 0 5) (ck (rgC (2 * d) 0 (c - 1)) (stC (bz (fr < 0)))))))
def serF (a b c d : Int) (m : Mm) : Mm := st (st (st m 63 0 a (wr b)) 64 0 a (wr c)) 65 0 a (wr d)
noncomputable def serM (mm : Mm) (a b c d : Int) : Mm := md E0 (serH (rd mm 40 0 25) (rd mm 63 0 a) a b c d) mm (serF a b c d)
set_option maxRecDepth 100000 in
set_option maxHeartbeats 400000 in
theorem M_mseries (a b c9 d9 : Int) (mm : Mm) (o : Int64) (ha : wr a = a) (hb : wr b = b) (hc : wr c9 = c9) (hd : wr d9 = d9) (k0 : 0 ≤ rd mm 40 0 25) (k1 : rd mm 40 0 25 ≤ 24) : MetX iX11_series [xr 40 0, xi a, xi b, xi c9, xi d9] mm o (rtv (serM mm a b c9 d9) o) := by
  refine MetX.of 0 (by decide +kernel) rfl (Nat.le_of_ble_eq_true rfl) ⟨by decide, by decide⟩ ?_
  intro p l e s m args below meth c Q V D ad A hC hN hok hF
  have hj : ∀ z, cdX E0 (serH (rd mm 40 0 25) (rd mm 63 0 a) a b c9 d9) = z → ∀ w x, Wx p l e (mrm iX11_series) s m args below meth c 0 0 Q V D ad A 7 93 [(0, xr 40 0), (1, xi a), (2, xi b), (3, xi c9), (4, xi d9), (5, xi w), (6, xi x)] [xi z, xr 40 0] mm o := by
    rintro z rfl w x
    refine Wx.callV (x := iX11_series) (y := iX11_holds) (k := 40) (avs := [_]) (rest := []) hC hN tkX11_series rfl rfl kX11_holds rfl (M_holdc _ _ _ _ (by decide)) ⟨rfl, rfl⟩ rfl (Nat.le_of_ble_eq_true rfl) (by exact nol rfl) ?_
    rintro r mm' o' ⟨rfl, rfl, rfl⟩
    refine wpx hC tkX11_series hF [] 200 ?_
    refine ⟨fun q => ⟨rfl, md_s (yb q), rfl⟩, fun q => ?_⟩
    have hn := Classical.not_not.mp (nb q)
    obtain ⟨a0, a1⟩ := ix_of (ck_of hn).1
    have a2 : 0 ≤ a ∧ a < 24 := by omega
    exact ⟨a2, a2, a2, rfl, md_n hn, rfl⟩
  have hg2 : ∀ w x, ((¬ w = 0) → (0 ≤ a ∧ a < rd mm 40 0 25) ∧ (0 ≤ b ∧ b < 30)) → (w = 0 → ¬ ((0 ≤ a ∧ a < rd mm 40 0 25) ∧ (0 ≤ b ∧ b < 30))) → wr w = w → ((¬ x = 0) → (1 ≤ c9 ∧ c9 ≤ 30) ∧ (0 ≤ d9 ∧ d9 ≤ 5) ∧ 2 * d9 < c9) → (x = 0 → ¬ ((1 ≤ c9 ∧ c9 ≤ 30) ∧ (0 ≤ d9 ∧ d9 ≤ 5) ∧ 2 * d9 < c9)) → wr x = x → Wx p l e (mrm iX11_series) s m args below meth c 0 0 Q V D ad A 7 58 [(0, xr 40 0), (1, xi a), (2, xi b), (3, xi c9), (4, xi d9), (5, xi w)] [xi x] mm o := by
    intro w x h1 h9 hw h2 h8 hx
    unfold serH at hj
    refine wpx hC tkX11_series hF [93] 200 ?_
    refine ⟨fun q => ⟨fun q2 => ?_, fun q2 => ?_⟩, fun q => ?_⟩
    · rw [hw] at q; rw [hx] at q2
      obtain ⟨qa, qb⟩ := h1 q
      obtain ⟨qc, qd, qe⟩ := h2 q2
      refine ⟨⟨qa.1, by show a < (24 : Int); omega⟩, fun q3 => hj 0 ?_ _ _, fun q3 => hj 3 ?_ _ _⟩
      · rw [wr_rd] at q3
        rw [ck_ln (ix_t qa), ck_ln (ix_t qb), ck_ln (rg_t qc), ck_ln (rg_t qd), ck_ln (rg_t (by omega))]; exact cdt_st q3
      · rw [wr_rd] at q3
        rw [ck_ln (ix_t qa), ck_ln (ix_t qb), ck_ln (rg_t qc), ck_ln (rg_t qd), ck_ln (rg_t (by omega))]; exact cdy_st q3
    · rw [hw] at q; rw [hx] at q2
      obtain ⟨qa, qb⟩ := h1 q
      have h3 := h8 q2
      refine hj 2 ?_ _ _
      rw [ck_ln (ix_t qa), ck_ln (ix_t qb)]
      by_cases qc : 1 ≤ c9 ∧ c9 ≤ 30
      · rw [ck_ln (rg_t qc)]
        by_cases qd : 0 ≤ d9 ∧ d9 ≤ 5
        · rw [ck_ln (rg_t qd)]; exact cdx_rg (by omega)
        · exact cdx_rg qd
      · exact cdx_rg qc
    · rw [hw] at q
      have h3 := h9 q
      refine hj 1 ?_ _ _
      by_cases qa : 0 ≤ a ∧ a < rd mm 40 0 25
      · rw [ck_ln (ix_t qa)]; exact cdx_ix (fun h => h3 ⟨qa, h⟩)
      · exact cdx_ix qa
  have hf : ∀ w, ((¬ w = 0) → (0 ≤ a ∧ a < rd mm 40 0 25) ∧ (0 ≤ b ∧ b < 30)) → (w = 0 → ¬ ((0 ≤ a ∧ a < rd mm 40 0 25) ∧ (0 ≤ b ∧ b < 30))) → wr w = w → Wx p l e (mrm iX11_series) s m args below meth c 0 0 Q V D ad A 7 21 [(0, xr 40 0), (1, xi a), (2, xi b), (3, xi c9), (4, xi d9)] [xi w] mm o := by
    intro w h1 h9 hw
    have no : ¬ ((1 ≤ c9 ∧ c9 ≤ 30) ∧ (0 ≤ d9 ∧ d9 ≤ 5) ∧ 2 * d9 < c9) → _ := fun h => hg2 w 0 h1 h9 hw (fun q => absurd rfl q) (fun _ => h) rfl
    refine wpx hC tkX11_series hF [58] 200 ?_
    refine Wx.callV (x := iX11_series) (y := iX11_in) (k := 40) (avs := [_, _, _]) (rest := []) hC hN tkX11_series rfl rfl kX11_in rfl (M_in _ _ _ _ _ hc rfl rfl) ⟨rfl, rfl⟩ rfl (Nat.le_of_ble_eq_true rfl) (by exact nol rfl) ?_
    rintro r mm' o' ⟨rfl, rfl, rfl⟩
    refine wpx hC tkX11_series hF [58] 200 ?_
    refine ⟨fun q => no (fun h => nb q h.1), fun q1 => ?_⟩
    refine Wx.callV (x := iX11_series) (y := iX11_in) (k := 40) (avs := [_, _, _]) (rest := []) hC hN tkX11_series rfl rfl kX11_in rfl (M_in _ _ _ _ _ hd rfl rfl) ⟨rfl, rfl⟩ rfl (Nat.le_of_ble_eq_true rfl) (by exact nol rfl) ?_
    rintro r mm' o' ⟨rfl, rfl, rfl⟩
    refine wpx hC tkX11_series hF [58] 200 ?_
    refine ⟨fun q => no (fun h => nb q h.2.1), fun q2 => ?_⟩
    have qd := yb q2
    refine ⟨fun q => no (fun h => ?_), fun q => hg2 w 1 h1 h9 hw (fun _ => ⟨yb q1, qd, ?_⟩) (fun h => absurd h (by decide)) rfl⟩
    · rw [hc, wr_of (by omega) (by omega)] at q; omega
    · rw [hc, wr_of (by omega) (by omega)] at q; omega
  refine wpx hC tkX11_series hF [21] 200 ?_
  refine Wx.callV (x := iX11_series) (y := iX11_isTarget) (k := 40) (avs := [_]) (rest := []) hC hN tkX11_series rfl rfl kX11_isTarget rfl (M_isTarget _ _ _ ha k0) ⟨rfl, rfl⟩ rfl (Nat.le_of_ble_eq_true rfl) (by exact nol rfl) ?_
  rintro r mm' o' ⟨rfl, rfl, rfl⟩
  refine wpx hC tkX11_series hF [21] 200 ?_
  refine ⟨fun q => hf 0 (fun h => absurd rfl h) (fun _ h => nb q (by omega)) rfl, fun q1 => ?_⟩
  refine Wx.callV (x := iX11_series) (y := iX11_isNight) (k := 40) (avs := [_]) (rest := []) hC hN tkX11_series rfl rfl kX11_isNight rfl (M_isNight _ _ _ hb) ⟨rfl, rfl⟩ rfl (Nat.le_of_ble_eq_true rfl) (by exact nol rfl) ?_
  rintro r mm' o' ⟨rfl, rfl, rfl⟩
  refine wpx hC tkX11_series hF [21] 200 ?_
  exact ⟨fun q => hf 0 (fun h => absurd rfl h) (fun _ h => nb q (by omega)) rfl, fun q2 => hf 1 (fun _ => by have := yb q1; have := yb q2; omega) (fun h => absurd h (by decide)) rfl⟩
def altI (a f g h v : Int) : Prop := (0 ≤ a ∧ a < 4) ∧ (0 ≤ f ∧ f < 3) ∧ (0 ≤ g ∧ g < 30) ∧ (0 ≤ h ∧ h < 24) ∧ (0 ≤ v ∧ v < 24)
def altP (b c d e h v : Int) : Prop := (1 ≤ b ∧ b ≤ 9) ∧ ((0 ≤ c ∧ c ≤ 359) ∧ (-90 ≤ d ∧ d ≤ 90)) ∧ (1 ≤ e ∧ e ≤ 6) ∧ h ≤ v
noncomputable def altH (na a b c d e f g h v : Int) : Option String := ck (ixC a 4) (ck (ixC f 3) (ck (ixC g 30) (ck (ixC h 24) (ck (ixC v 24) (ck (rgC b 1 9) (ck (ck (rgC c 0 359) (rgC d (-90) 90)) (ck (rgC e 1 6) (ck (orC h v) (stC (bz (na < 10))))))))))) 
theorem alt_1 {na a b c d e f g h v : Int} (q : ¬ altI a f g h v) : cdX E0 (altH na a b c d e f g h v) = 1 := by
  unfold altH
  unfold altI at q
  by_cases q1 : 0 ≤ a ∧ a < 4
  · rw [ck_ln (ix_t q1)]
    by_cases q2 : 0 ≤ f ∧ f < 3
    · rw [ck_ln (ix_t q2)]
      by_cases q3 : 0 ≤ g ∧ g < 30
      · rw [ck_ln (ix_t q3)]
        by_cases q4 : 0 ≤ h ∧ h < 24
        · rw [ck_ln (ix_t q4)]
          exact cdx_ix (fun q5 => q ⟨q1, q2, q3, q4, q5⟩)
        · exact cdx_ix q4
      · exact cdx_ix q3
    · exact cdx_ix q2
  · exact cdx_ix q1
theorem alt_2 {na a b c d e f g h v : Int} (qi : altI a f g h v) (q : ¬ altP b c d e h v) : cdX E0 (altH na a b c d e f g h v) = 2 := by
  obtain ⟨i1, i2, i3, i4, i5⟩ := qi
  unfold altH
  unfold altP at q
  rw [ck_ln (ix_t i1), ck_ln (ix_t i2), ck_ln (ix_t i3), ck_ln (ix_t i4), ck_ln (ix_t i5)]
  by_cases q1 : 1 ≤ b ∧ b ≤ 9
  · rw [ck_ln (rg_t q1), ck_ck]
    by_cases q2 : 0 ≤ c ∧ c ≤ 359
    · rw [ck_ln (rg_t q2)]
      by_cases q3 : -90 ≤ d ∧ d ≤ 90
      · rw [ck_ln (rg_t q3)]
        by_cases q4 : 1 ≤ e ∧ e ≤ 6
        · rw [ck_ln (rg_t q4)]
          exact cdx_or (fun q5 => q ⟨q1, ⟨q2, q3⟩, q4, q5⟩)
        · exact cdx_rg q4
      · exact cdx_rg q3
    · exact cdx_rg q2
  · exact cdx_rg q1
theorem alt_e {na a b c d e f g h v : Int} (qi : altI a f g h v) (q : altP b c d e h v) : altH na a b c d e f g h v = stC (bz (na < 10)) := by
  obtain ⟨i1, i2, i3, i4, i5⟩ := qi
  obtain ⟨q1, ⟨q2, q3⟩, q4, q5⟩ := q
  unfold altH
  rw [ck_ln (ix_t i1), ck_ln (ix_t i2), ck_ln (ix_t i3), ck_ln (ix_t i4), ck_ln (ix_t i5), ck_ln (rg_t q1), ck_ck, ck_ln (rg_t q2), ck_ln (rg_t q3), ck_ln (rg_t q4), ck_ln (or_t q5)]
def altF (a b c d e f g h v : Int) (m : Mm) : Mm := st (st (st (st (st (layC m (24 + rd m 40 0 30) a c d e f) 67 0 (rd m 40 0 30) (wr b)) 68 0 (rd m 40 0 30) (wr g)) 69 0 (rd m 40 0 30) (wr h)) 70 0 (rd m 40 0 30) (wr v)) 40 0 30 (wr (rd m 40 0 30 + 1))
noncomputable def altM (mm : Mm) (a b c d e f g h v : Int) : Mm := md E0 (altH (rd mm 40 0 30) a b c d e f g h v) mm (altF a b c d e f g h v)
noncomputable def altR (mm : Mm) (a b c d e f g h v : Int) : Int := pif (altH (rd mm 40 0 30) a b c d e f g h v = none) (rd (altM mm a b c d e f g h v) 40 0 30 - 1) (-1)
set_option maxRecDepth 100000 in
set_option maxHeartbeats 400000 in
theorem M_malert (a b c0 d0 e0 f0 g0 h0 v0 : Int) (mm : Mm) (o : Int64) (ha : wr a = a) (hb : wr b = b) (hc : wr c0 = c0) (hd : wr d0 = d0) (he : wr e0 = e0) (hf0 : wr f0 = f0) (hg : wr g0 = g0) (hh : wr h0 = h0) (hv : wr v0 = v0) (k0 : 0 ≤ rd mm 40 0 30) (k1 : rd mm 40 0 30 ≤ 10) : MetX iX11_alert [xr 40 0, xi a, xi b, xi c0, xi d0, xi e0, xi f0, xi g0, xi h0, xi v0] mm o (rto (xi (altR mm a b c0 d0 e0 f0 g0 h0 v0)) (altM mm a b c0 d0 e0 f0 g0 h0 v0) o) := by
  refine MetX.of 1 (by decide +kernel) rfl (Nat.le_of_ble_eq_true rfl) ⟨by decide, by decide⟩ ?_
  intro p l e s m args below meth c Q V D ad A hC hN hok hF
  have hj : ∀ z, cdX E0 (altH (rd mm 40 0 30) a b c0 d0 e0 f0 g0 h0 v0) = z → ∀ w x, Wx p l e (mrm iX11_alert) s m args below meth c 0 0 Q V D ad A 12 133 [(0, xr 40 0), (1, xi a), (2, xi b), (3, xi c0), (4, xi d0), (5, xi e0), (6, xi f0), (7, xi g0), (8, xi h0), (9, xi v0), (10, xi w), (11, xi x)] [xi z, xr 40 0] mm o := by
    rintro z rfl w x
    refine Wx.callV (x := iX11_alert) (y := iX11_holds) (k := 40) (avs := [_]) (rest := []) hC hN tkX11_alert rfl rfl kX11_holds rfl (M_holdc _ _ _ _ (by decide)) ⟨rfl, rfl⟩ rfl (Nat.le_of_ble_eq_true rfl) (by exact nol rfl) ?_
    rintro r mm' o' ⟨rfl, rfl, rfl⟩
    refine wpx hC tkX11_alert hF [] 200 ?_
    refine ⟨fun q => ?_, fun q => ⟨congrArg (fun z => some (xi z)) (pif_f (yb q)).symm, md_s (yb q), rfl⟩⟩
    have hn := Classical.not_not.mp (nb q)
    have hk : rd (hold mm (cdX E0 (altH (rd mm 40 0 30) a b c0 d0 e0 f0 g0 h0 v0))) 40 0 30 = rd mm 40 0 30 := rd_hold _ _ _ _ _ (by decide)
    have hs := st_of (ck_of2 (ck_of2 (ck_of2 (ck_of2 (ck_of2 (ck_of2 (ck_of2 (ck_of2 (ck_of2 hn)))))))))
    have hi : 0 ≤ rd (hold mm (cdX E0 (altH (rd mm 40 0 30) a b c0 d0 e0 f0 g0 h0 v0))) 40 0 30 ∧ rd (hold mm (cdX E0 (altH (rd mm 40 0 30) a b c0 d0 e0 f0 g0 h0 v0))) 40 0 30 < 10 := by omega
    have hM : altM mm a b c0 d0 e0 f0 g0 h0 v0 = altF a b c0 d0 e0 f0 g0 h0 v0 (hold mm (cdX E0 (altH (rd mm 40 0 30) a b c0 d0 e0 f0 g0 h0 v0))) := md_n hn
    refine Wx.callV (x := iX11_alert) (y := iX11_lay) (k := 40) (avs := [_, _, _, _, _, _]) (rest := []) hC hN tkX11_alert rfl rfl kX11_lay rfl (M_lay _ _ _ _ _ _ _ _ (by omega) (by omega)) ⟨rfl, rfl⟩ rfl (Nat.le_of_ble_eq_true rfl) (by exact nol rfl) ?_
    rintro r mm' o' ⟨rfl, rfl, rfl⟩
    refine wpx hC tkX11_alert hF [] 200 ?_
    exact ⟨hi, hi, hi, hi, congrArg (fun z => some (xi z)) (by unfold altR; rw [pif_t hn, hM]; rfl), hM, rfl⟩
  have hg2 : ∀ w x, ((¬ w = 0) → altI a f0 g0 h0 v0) → (w = 0 → ¬ altI a f0 g0 h0 v0) → wr w = w → ((¬ x = 0) → altP b c0 d0 e0 h0 v0) → (x = 0 → ¬ altP b c0 d0 e0 h0 v0) → wr x = x → Wx p l e (mrm iX11_alert) s m args below meth c 0 0 Q V D ad A 12 98 [(0, xr 40 0), (1, xi a), (2, xi b), (3, xi c0), (4, xi d0), (5, xi e0), (6, xi f0), (7, xi g0), (8, xi h0), (9, xi v0), (10, xi w)] [xi x] mm o := by
    intro w x h1 h9 hw h2 h8 hx
    refine wpx hC tkX11_alert hF [133] 200 ?_
    refine ⟨fun q => ⟨fun q2 => ⟨fun q3 => hj 0 ?_ _ _, fun q3 => hj 3 ?_ _ _⟩, fun q2 => hj 2 ?_ _ _⟩, fun q => hj 1 ?_ _ _⟩
    · rw [hw] at q; rw [hx] at q2
      rw [wr_rd, show wr 10 = 10 from rfl] at q3
      rw [alt_e (h1 q) (h2 q2)]; exact cdt_st (by omega)
    · rw [hw] at q; rw [hx] at q2
      rw [wr_rd, show wr 10 = 10 from rfl] at q3
      rw [alt_e (h1 q) (h2 q2)]; exact cdy_st (by omega)
    · rw [hw] at q; rw [hx] at q2
      exact alt_2 (h1 q) (h8 q2)
    · rw [hw] at q
      exact alt_1 (h9 q)
  have hf : ∀ w, ((¬ w = 0) → altI a f0 g0 h0 v0) → (w = 0 → ¬ altI a f0 g0 h0 v0) → wr w = w → Wx p l e (mrm iX11_alert) s m args below meth c 0 0 Q V D ad A 12 51 [(0, xr 40 0), (1, xi a), (2, xi b), (3, xi c0), (4, xi d0), (5, xi e0), (6, xi f0), (7, xi g0), (8, xi h0), (9, xi v0)] [xi w] mm o := by
    intro w h1 h9 hw
    have no : ¬ altP b c0 d0 e0 h0 v0 → _ := fun h => hg2 w 0 h1 h9 hw (fun q => absurd rfl q) (fun _ => h) rfl
    refine wpx hC tkX11_alert hF [98] 200 ?_
    refine Wx.callV (x := iX11_alert) (y := iX11_in) (k := 40) (avs := [_, _, _]) (rest := []) hC hN tkX11_alert rfl rfl kX11_in rfl (M_in _ _ _ _ _ hb rfl rfl) ⟨rfl, rfl⟩ rfl (Nat.le_of_ble_eq_true rfl) (by exact nol rfl) ?_
    rintro r mm' o' ⟨rfl, rfl, rfl⟩
    refine wpx hC tkX11_alert hF [98] 200 ?_
    refine ⟨fun q => no (fun h => nb q h.1), fun q1 => ?_⟩
    refine Wx.callV (x := iX11_alert) (y := iX11_isPlace) (k := 40) (avs := [_, _]) (rest := []) hC hN tkX11_alert rfl rfl kX11_isPlace rfl (M_isPlace _ _ _ _ hc hd) ⟨rfl, rfl⟩ rfl (Nat.le_of_ble_eq_true rfl) (by exact nol rfl) ?_
    rintro r mm' o' ⟨rfl, rfl, rfl⟩
    refine wpx hC tkX11_alert hF [98] 200 ?_
    refine ⟨fun q => no (fun h => nb q h.2.1), fun q2 => ?_⟩
    refine Wx.callV (x := iX11_alert) (y := iX11_in) (k := 40) (avs := [_, _, _]) (rest := []) hC hN tkX11_alert rfl rfl kX11_in rfl (M_in _ _ _ _ _ he rfl rfl) ⟨rfl, rfl⟩ rfl (Nat.le_of_ble_eq_true rfl) (by exact nol rfl) ?_
    rintro r mm' o' ⟨rfl, rfl, rfl⟩
    refine wpx hC tkX11_alert hF [98] 200 ?_
    refine ⟨fun q => no (fun h => nb q h.2.2.1), fun q3 => ?_⟩
    refine ⟨fun q => no (fun h => ?_), fun q => hg2 w 1 h1 h9 hw (fun _ => ⟨yb q1, yb q2, yb q3, ?_⟩) (fun h => absurd h (by decide)) rfl⟩
    · rw [hh, hv] at q; have := h.2.2.2; omega
    · rw [hh, hv] at q; omega
  have noI : ¬ altI a f0 g0 h0 v0 → _ := fun h => hf 0 (fun q => absurd rfl q) (fun _ => h) rfl
  refine wpx hC tkX11_alert hF [51] 200 ?_
  refine Wx.callV (x := iX11_alert) (y := iX11_isGroup) (k := 40) (avs := [_]) (rest := []) hC hN tkX11_alert rfl rfl kX11_isGroup rfl (M_isGroup _ _ _ ha) ⟨rfl, rfl⟩ rfl (Nat.le_of_ble_eq_true rfl) (by exact nol rfl) ?_
  rintro r mm' o' ⟨rfl, rfl, rfl⟩
  refine wpx hC tkX11_alert hF [51] 200 ?_
  refine ⟨fun q => noI (fun h => nb q (by have := h.1; omega)), fun q1 => ?_⟩
  refine Wx.callV (x := iX11_alert) (y := iX11_in) (k := 40) (avs := [_, _, _]) (rest := []) hC hN tkX11_alert rfl rfl kX11_in rfl (M_in _ _ _ _ _ hf0 rfl rfl) ⟨rfl, rfl⟩ rfl (Nat.le_of_ble_eq_true rfl) (by exact nol rfl) ?_
  rintro r mm' o' ⟨rfl, rfl, rfl⟩
  refine wpx hC tkX11_alert hF [51] 200 ?_
  refine ⟨fun q => noI (fun h => nb q (by have := h.2.1; omega)), fun q2 => ?_⟩
  refine Wx.callV (x := iX11_alert) (y := iX11_isNight) (k := 40) (avs := [_]) (rest := []) hC hN tkX11_alert rfl rfl kX11_isNight rfl (M_isNight _ _ _ hg) ⟨rfl, rfl⟩ rfl (Nat.le_of_ble_eq_true rfl) (by exact nol rfl) ?_
  rintro r mm' o' ⟨rfl, rfl, rfl⟩
  refine wpx hC tkX11_alert hF [51] 200 ?_
  refine ⟨fun q => noI (fun h => nb q (by have := h.2.2.1; omega)), fun q3 => ?_⟩
  refine Wx.callV (x := iX11_alert) (y := iX11_isSlot) (k := 40) (avs := [_]) (rest := []) hC hN tkX11_alert rfl rfl kX11_isSlot rfl (M_isSlot _ _ _ hh) ⟨rfl, rfl⟩ rfl (Nat.le_of_ble_eq_true rfl) (by exact nol rfl) ?_
  rintro r mm' o' ⟨rfl, rfl, rfl⟩
  refine wpx hC tkX11_alert hF [51] 200 ?_
  refine ⟨fun q => noI (fun h => nb q (by have := h.2.2.2.1; omega)), fun q4 => ?_⟩
  refine Wx.callV (x := iX11_alert) (y := iX11_isSlot) (k := 40) (avs := [_]) (rest := []) hC hN tkX11_alert rfl rfl kX11_isSlot rfl (M_isSlot _ _ _ hv) ⟨rfl, rfl⟩ rfl (Nat.le_of_ble_eq_true rfl) (by exact nol rfl) ?_
  rintro r mm' o' ⟨rfl, rfl, rfl⟩
  refine wpx hC tkX11_alert hF [51] 200 ?_
  exact ⟨fun q => noI (fun h => nb q (by have := h.2.2.2.2; omega)), fun q5 => hf 1 (fun _ => by have := yb q1; have := yb q2; have := yb q3; have := yb q4; have := yb q5; unfold altI; omega) (fun h => absurd h (by decide)) rfl⟩
