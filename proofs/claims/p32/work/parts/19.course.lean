/-! ===== a slot of a course, the night's end, books ===== -/
noncomputable def st2 (m1 : Mm) (x i : Int) : Mm := pif (rd m1 31 (27 * x + i) 0 = 0) (resumeC m1 x (27 * x + i) i) m1
noncomputable def st3 (m2 : Mm) (x i : Int) : Mm := pif (rd m2 31 (27 * x + i) 0 = 0) (targetC m2 x (27 * x + i) i) m2
noncomputable def st4 (m3 : Mm) (x i : Int) : Mm := pif (rd m3 31 (27 * x + i) 0 = 0) (st m3 34 x i (wr (rd m3 34 x i + 1))) (obsvC m3 x (27 * x + i) i)
noncomputable def stB (mm : Mm) (x i : Int) : Mm := st (breakC mm x (27 * x + i)) 33 x i (wr (rd (breakC mm x (27 * x + i)) 33 x i + 1))
noncomputable def siteC (mm : Mm) (x i : Int) : Mm := pif (seenC mm i (rd mm 26 x 8) = 0) (stB mm x i) (st4 (st3 (st2 (alertC mm x (27 * x + i) i) x i) x i) x i)
/-- what a course's steps leave -/
def leaves (k : Nat) (j : Int) : Prop := finS k ∧ k ≠ 31 ∧ k ≠ 32 ∧ k ≠ 33 ∧ k ≠ 34 ∧ ¬ (k = 26 ∧ j = 9)
theorem rd_st2 (m : Mm) (x i : Int) (k : Nat) (a j : Int) (h : k ≠ 31) : rd (st2 m x i) k a j = rd m k a j := by
  unfold st2
  by_cases q : rd m 31 (27 * x + i) 0 = 0
  · rw [pif_t q, rd_resume _ _ _ _ _ _ _ h]
  · rw [pif_f q]
theorem rd_st3 (m : Mm) (x i : Int) (k : Nat) (a j : Int) (h : k ≠ 31) : rd (st3 m x i) k a j = rd m k a j := by
  unfold st3
  by_cases q : rd m 31 (27 * x + i) 0 = 0
  · rw [pif_t q, rd_target _ _ _ _ _ _ _ (fun q => h q.1)]
  · rw [pif_f q]
theorem rd_st4 (m : Mm) (x i : Int) (k : Nat) (a j : Int) (h : leaves k j) : rd (st4 m x i) k a j = rd m k a j := by
  obtain ⟨h1, h2, h3, h4, h5, h6⟩ := h
  unfold st4
  by_cases q : rd m 31 (27 * x + i) 0 = 0
  · rw [pif_t q, rd_st_ne h5]
  · rw [pif_f q, rd_obsv _ _ _ _ _ _ _ h1 (fun q => h2 q.1) h6]
theorem rd_site (m : Mm) (x i : Int) (k : Nat) (a j : Int) (h : leaves k j) : rd (siteC m x i) k a j = rd m k a j := by
  obtain ⟨h1, h2, h3, h4, h5, h6⟩ := id h
  unfold siteC
  by_cases q : seenC m i (rd m 26 x 8) = 0
  · rw [pif_t q]
    unfold stB
    rw [rd_st_ne h4, rd_break _ _ _ _ _ _ h2 h3]
  · rw [pif_f q, rd_st4 _ _ _ _ _ _ h, rd_st3 _ _ _ _ _ _ h2, rd_st2 _ _ _ _ _ _ h2, rd_alert _ _ _ _ _ _ _ (fun q => h2 q.1) h3]
theorem lv20 {k : Nat} {j : Int} (h : k < 20) : leaves k j := by unfold leaves finS; omega
theorem lv268 : leaves 26 8 := by unfold leaves finS; omega
theorem IA_site {mm : Mm} (hI : IA mm) (x i : Int) : IA (siteC mm x i) := IA_of hI (fun k a j hk => rd_site _ _ _ _ _ _ (lv20 hk))
theorem IC_st2 {m : Mm} {x i : Int} (hI : IA m) (h : IC m x) (i0 : 0 ≤ i) (i1 : i < 3) : IC (st2 m x i) x := by
  unfold st2
  by_cases q : rd m 31 (27 * x + i) 0 = 0
  · rw [pif_t q]; exact IC_resume hI h (by omega) (by omega)
  · rw [pif_f q]; exact h
theorem IC_st3 {m : Mm} {x i : Int} (hI : IA m) (h : IC m x) (i0 : 0 ≤ i) (i1 : i < 3) : IC (st3 m x i) x := by
  unfold st3
  by_cases q : rd m 31 (27 * x + i) 0 = 0
  · rw [pif_t q]; exact IC_target hI h (by omega)
  · rw [pif_f q]; exact h
theorem IC_st4 {m : Mm} {x i : Int} (hI : IA m) (h : IC m x) (i0 : 0 ≤ i) (i1 : i < 3) : IC (st4 m x i) x := by
  unfold st4
  by_cases q : rd m 31 (27 * x + i) 0 = 0
  · rw [pif_t q]
    exact IC_same h (fun w j => rd_st_ne (by decide)) (fun t => rd_st_ne (by decide)) (by rw [rd_st_ne (by decide)]; exact h.2.2)
  · rw [pif_f q]; exact IC_obsv h hI (by omega) (by omega)
theorem IC_site {mm : Mm} {x i : Int} (hI : IA mm) (h : IC mm x) (i0 : 0 ≤ i) (i1 : i < 3) : IC (siteC mm x i) x := by
  have hI1 : IA (alertC mm x (27 * x + i) i) := IA_of hI (fun k a j hk => rd_alert _ _ _ _ _ _ _ (by omega) (by omega))
  have hI2 : IA (st2 (alertC mm x (27 * x + i) i) x i) := IA_of hI1 (fun k a j hk => rd_st2 _ _ _ _ _ _ (by omega))
  have hI3 : IA (st3 (st2 (alertC mm x (27 * x + i) i) x i) x i) := IA_of hI2 (fun k a j hk => rd_st3 _ _ _ _ _ _ (by omega))
  unfold siteC
  by_cases q : seenC mm i (rd mm 26 x 8) = 0
  · rw [pif_t q]
    have hb := IC_break (v := 27 * x + i) hI h (by omega) (by omega)
    exact IC_same hb (fun w j => rd_st_ne (by decide)) (fun t => rd_st_ne (by decide)) (by unfold stB; rw [rd_st_ne (by decide)]; exact hb.2.2)
  · rw [pif_f q]
    exact IC_st4 hI3 (IC_st3 hI2 (IC_st2 hI1 (IC_alert hI h (by omega)) i0 i1) i0 i1) i0 i1
noncomputable def enC (mm : Mm) (x : Int) : Mm := fori (fun t m => loseC m x (27 * x + 3 + t)) 24 0 (loseC (loseC (loseC mm x (27 * x + 0)) x (27 * x + (0 + 1))) x (27 * x + (0 + 1 + 1)))
theorem fori_keep {P : Mm → Prop} {f : Int → Mm → Mm} (lo hi : Int) (h : ∀ t m, lo ≤ t → t < hi → P m → P (f t m)) : ∀ (n : Nat) (c : Int) (m : Mm), lo ≤ c → c + n ≤ hi → P m → P (fori f n c m)
  | 0, _, _, _, _, hm => hm
  | n + 1, c, m, h0, h1, hm => fori_keep lo hi h n (c + 1) (f c m) (by omega) (by omega) (h c m h0 (by omega) hm)
theorem rd_en (mm : Mm) (x : Int) (k : Nat) (a j : Int) (h : k ≠ 31 ∧ k ≠ 32) : rd (enC mm x) k a j = rd mm k a j := by
  have h1 : ∀ m v, rd (loseC m x v) k a j = rd m k a j := fun m v => rd_lose _ _ _ _ _ _ (fun q => h.1 q.1) h.2
  unfold enC
  refine fori_keep (P := fun m => rd m k a j = rd mm k a j) 0 24 (fun t m _ _ hm => (h1 _ _).trans hm) 24 0 _ (by omega) (by omega) ?_
  rw [h1, h1, h1]
theorem IC_en {mm : Mm} {x : Int} (h : IC mm x) : IC (enC mm x) x := by
  unfold enC
  exact fori_keep (P := fun m => IC m x) 0 24 (fun t m _ _ hm => IC_lose hm _) 24 0 _ (by omega) (by omega) (IC_lose (IC_lose (IC_lose h _) _) _)
set_option maxRecDepth 100000 in
set_option maxHeartbeats 400000 in
theorem M_endNight (x : Int) (mm : Mm) (o : Int64) (hI : IA mm) (h : IC mm x) : MetX iX4_endNight [xr 26 x] mm o (rtv (enC mm x) o) := by
  refine MetX.of 0 (by decide +kernel) rfl (Nat.le_of_ble_eq_true rfl) ⟨by decide, by decide⟩ ?_
  intro p l e s m args below meth c Q V D ad A hC hN hok hF
  have hL : ∀ (m : Mm) (v : Int), IA m → IA (loseC m x v) := fun m v hm => IA_of hm (fun k a j hk => rd_lose _ _ _ _ _ _ (by omega) (by omega))
  have loop : ∀ (n : Nat) (t : Int) (m9 : Mm), 0 ≤ t → t + n = 24 → IA m9 → IC m9 x → fori (fun t m => loseC m x (27 * x + 3 + t)) n t m9 = enC mm x → Wx p l e (mrm iX4_endNight) s m args below meth c 0 0 Q V D ad A 2 25 [(0, xr 26 x), (1, xi t)] [] m9 o := by
    intro n
    induction n with
    | zero =>
      intro t m9 t0 ht hI9 hC9 he
      refine wpx hC tkX4_endNight hF [25] 200 ?_
      refine ⟨fun q => ⟨rfl, he.symm, rfl⟩, fun q => ?_⟩
      rw [show wr 24 = 24 from rfl, wr_of (by omega) (by omega)] at q; omega
    | succ n ih =>
      intro t m9 t0 ht hI9 hC9 he
      refine wpx hC tkX4_endNight hF [25] 200 ?_
      refine ⟨fun q => ?_, fun q => ⟨⟨t0, by show _ < (24 : Int); omega⟩, ?_⟩⟩
      · rw [show wr 24 = 24 from rfl, wr_of (by omega) (by omega)] at q; omega
      refine Wx.callV (x := iX4_endNight) (y := iX4_lose) (k := 26) (avs := [_]) (rest := []) hC hN tkX4_endNight rfl rfl kX4_lose rfl (M_lose _ _ _ _ hI9 (vOK_b (hC9.2.1 t t0 (by omega)) t0 (by omega))) ⟨rfl, rfl⟩ rfl (Nat.le_of_ble_eq_true rfl) (by exact nol rfl) ?_
      rintro r mm' o' ⟨rfl, rfl, rfl⟩
      refine wpx hC tkX4_endNight hF [25] 200 ?_
      exact ih (t + 1) _ (by omega) (by omega) (hL _ _ hI9) (IC_lose hC9 _) he
  have h0 := IC_lose h (27 * x + 0)
  have h1 := IC_lose h0 (27 * x + (0 + 1))
  have h2 := IC_lose h1 (27 * x + (0 + 1 + 1))
  have i0 := hL mm (27 * x + 0) hI
  have i1 := hL _ (27 * x + (0 + 1)) i0
  have i2 := hL _ (27 * x + (0 + 1 + 1)) i1
  refine wpx hC tkX4_endNight hF [25] 200 ?_
  refine ⟨fun q => absurd q (by decide), fun _ => ⟨by decide, ?_⟩⟩
  refine Wx.callV (x := iX4_endNight) (y := iX4_lose) (k := 26) (avs := [_]) (rest := []) hC hN tkX4_endNight rfl rfl kX4_lose rfl (M_lose _ _ _ _ hI (h.1 0 (by decide) (by decide))) ⟨rfl, rfl⟩ rfl (Nat.le_of_ble_eq_true rfl) (by exact nol rfl) ?_
  rintro r mm' o' ⟨rfl, rfl, rfl⟩
  refine wpx hC tkX4_endNight hF [25] 200 ?_
  refine ⟨fun q => absurd q (by decide), fun _ => ⟨by decide, ?_⟩⟩
  refine Wx.callV (x := iX4_endNight) (y := iX4_lose) (k := 26) (avs := [_]) (rest := []) hC hN tkX4_endNight rfl rfl kX4_lose rfl (M_lose _ _ _ _ i0 (h0.1 (0 + 1) (by decide) (by decide))) ⟨rfl, rfl⟩ rfl (Nat.le_of_ble_eq_true rfl) (by exact nol rfl) ?_
  rintro r mm' o' ⟨rfl, rfl, rfl⟩
  refine wpx hC tkX4_endNight hF [25] 200 ?_
  refine ⟨fun q => absurd q (by decide), fun _ => ⟨by decide, ?_⟩⟩
  refine Wx.callV (x := iX4_endNight) (y := iX4_lose) (k := 26) (avs := [_]) (rest := []) hC hN tkX4_endNight rfl rfl kX4_lose rfl (M_lose _ _ _ _ i1 (h1.1 (0 + 1 + 1) (by decide) (by decide))) ⟨rfl, rfl⟩ rfl (Nat.le_of_ble_eq_true rfl) (by exact nol rfl) ?_
  rintro r mm' o' ⟨rfl, rfl, rfl⟩
  refine wpx hC tkX4_endNight hF [25] 200 ?_
  refine ⟨fun _ => ?_, fun q => absurd (by decide) q⟩
  exact loop 24 0 _ (by decide) (by decide) i2 h2 rfl
def tick (mm : Mm) (x : Int) : Mm := st mm 26 x 8 (wr (rd mm 26 x 8 + 1))
noncomputable def sitesC (mm : Mm) (x : Int) : Mm := siteC (siteC (siteC mm x 0) x (0 + 1)) x (0 + 1 + 1)
noncomputable def slotC (mm : Mm) (x : Int) : Mm := pif (jrem (rd (tick (sitesC mm x) x) 26 x 8) 24 = 0) (enC (tick (sitesC mm x) x) x) (tick (sitesC mm x) x)
set_option maxRecDepth 100000 in
set_option maxHeartbeats 400000 in
theorem M_runSlot (x : Int) (mm : Mm) (o : Int64) (hI : IA mm) (h : IC mm x) (w0 : 0 ≤ rd mm 26 x 8) (w1 : rd mm 26 x 8 < 720) : MetX iX4_runSlot [xr 26 x] mm o (rtv (slotC mm x) o) := by
  refine MetX.of 0 (by decide +kernel) rfl (Nat.le_of_ble_eq_true rfl) ⟨by decide, by decide⟩ ?_
  intro p l e s m args below meth c Q V D ad A hC hN hok hF
  have site : ∀ (i : Int) (m9 : Mm) (L : List (Nat × AV)), 0 ≤ i → i < 3 → L.filter (fun q => decide (q.1 < 2)) = [(0, xr 26 x), (1, xi i)] → IA m9 → IC m9 x → rd m9 26 x 8 = rd mm 26 x 8 → Wx p l e (mrm iX4_runSlot) s m args below meth c 0 0 Q V D ad A 3 2 [(0, xr 26 x), (1, xi (i + 1))] [] (siteC m9 x i) o → Wx p l e (mrm iX4_runSlot) s m args below meth c 0 0 Q V D ad A 3 2 L [] m9 o := by
    intro i m9 L i0 i1 hL hI9 hC9 hw9 kk
    refine Wx.sub (L' := [(0, xr 26 x), (1, xi i)]) ?_ (fun q hq => (List.mem_filter.mp (hL ▸ hq)).1)
    have x0 : 0 ≤ rd m9 26 x 8 := by rw [hw9]; exact w0
    have x1 : rd m9 26 x 8 < 720 := by rw [hw9]; exact w1
    have hvO := hC9.1 i i0 i1
    have next : ∀ m8, m8 = siteC m9 x i → Wx p l e (mrm iX4_runSlot) s m args below meth c 0 0 Q V D ad A 3 133 [(0, xr 26 x), (1, xi i)] [] m8 o := by
      intro m8 h8
      subst h8
      refine wpx hC tkX4_runSlot hF [2] 200 ?_
      exact kk
    refine wpx hC tkX4_runSlot hF [2, 133] 200 ?_
    refine ⟨fun q => ?_, fun q => ⟨⟨i0, i1⟩, ⟨i0, i1⟩, ?_⟩⟩
    · rw [show wr 3 = 3 from rfl, wr_of (by omega) (by omega)] at q; omega
    refine Wx.callV (x := iX4_runSlot) (y := iX7_seeingAt) (k := 11) (avs := [_]) (rest := []) hC hN tkX4_runSlot rfl rfl kX7_seeingAt rfl (M_seeingAt _ _ _ _ x0 x1) ⟨rfl, rfl⟩ rfl (Nat.le_of_ble_eq_true rfl) (by exact nol rfl) ?_
    rintro r mm' o' ⟨rfl, rfl, rfl⟩
    refine wpx hC tkX4_runSlot hF [2, 133] 200 ?_
    refine ⟨fun q => ⟨⟨i0, i1⟩, ?_⟩, fun q => ?_⟩
    · rw [wr_seenC] at q
      refine Wx.callV (x := iX4_runSlot) (y := iX4_beginAlert) (k := 26) (avs := [_, _]) (rest := []) hC hN tkX4_runSlot rfl rfl kX4_beginAlert rfl (M_beginAlert _ _ _ _ _ hI9 hvO x0 x1) ⟨rfl, rfl⟩ rfl (Nat.le_of_ble_eq_true rfl) (by exact nol rfl) ?_
      rintro r mm' o' ⟨rfl, rfl, rfl⟩
      have hI1 : IA (alertC m9 x (27 * x + i) i) := IA_of hI9 (fun k a j hk => rd_alert _ _ _ _ _ _ _ (by omega) (by omega))
      have hC1 : IC (alertC m9 x (27 * x + i) i) x := IC_alert hI9 hC9 (by omega)
      have y1 : rd (alertC m9 x (27 * x + i) i) 26 x 8 = rd mm 26 x 8 := (rd_alert _ _ _ _ _ _ _ (by omega) (by omega)).trans hw9
      have go3 : ∀ m3, m3 = st3 (st2 (alertC m9 x (27 * x + i) i) x i) x i → IA m3 → IC m3 x → rd m3 26 x 8 = rd mm 26 x 8 → Wx p l e (mrm iX4_runSlot) s m args below meth c 0 0 Q V D ad A 3 107 [(0, xr 26 x), (1, xi i), (2, xr 31 (27 * x + i))] [] m3 o := by
        intro m3 e3 hI3 hC3 y3
        have hv3 := hC3.1 i i0 i1
        refine wpx hC tkX4_runSlot hF [2, 133] 200 ?_
        refine ⟨fun q2 => ?_, fun q2 => ⟨⟨i0, i1⟩, ⟨i0, i1⟩, ?_⟩⟩
        · rw [wr_rd] at q2
          have hp3 : vPre m3 (27 * x + i) := by
            by_cases k1 : rd m3 31 (27 * x + i) 0 = 1
            · obtain ⟨n0, n1, -, -⟩ := hv3.1 k1
              exact Or.inl ⟨k1, n0, n1⟩
            · exact Or.inr (hv3.2 q2 k1)
          refine Wx.callV (x := iX4_runSlot) (y := iX4_observe) (k := 26) (avs := [_, _]) (rest := []) hC hN tkX4_runSlot rfl rfl kX4_observe rfl (M_observe _ _ _ _ _ hI3 hp3 i0 i1 (by rw [y3]; exact w0) (by rw [y3]; exact w1) hC3.2.2) ⟨rfl, rfl⟩ rfl (Nat.le_of_ble_eq_true rfl) (by exact nol rfl) ?_
          rintro r mm' o' ⟨rfl, rfl, rfl⟩
          refine Wx.pick [0, 1] rfl (next _ ?_)
          rw [show siteC m9 x i = _ from pif_f q, ← e3]
          exact (pif_f q2).symm
        · rw [wr_rd] at q2
          refine Wx.pick [0, 1] rfl (next _ ?_)
          rw [show siteC m9 x i = _ from pif_f q, ← e3]
          exact (pif_t q2).symm
      have go2 : ∀ m2, m2 = st2 (alertC m9 x (27 * x + i) i) x i → IA m2 → IC m2 x → rd m2 26 x 8 = rd mm 26 x 8 → Wx p l e (mrm iX4_runSlot) s m args below meth c 0 0 Q V D ad A 3 86 [(0, xr 26 x), (1, xi i), (2, xr 31 (27 * x + i))] [] m2 o := by
        intro m2 e2 hI2 hC2 y2
        have hI3 : IA (st3 m2 x i) := IA_of hI2 (fun k a j hk => rd_st3 _ _ _ _ _ _ (by omega))
        have hC3 : IC (st3 m2 x i) x := IC_st3 hI2 hC2 i0 i1
        have y3 : rd (st3 m2 x i) 26 x 8 = rd mm 26 x 8 := (rd_st3 _ _ _ _ _ _ (by omega)).trans y2
        have g3 := go3 (st3 m2 x i) (by rw [e2]) hI3 hC3 y3
        refine wpx hC tkX4_runSlot hF [107] 200 ?_
        refine ⟨fun q2 => ?_, fun q2 => ⟨⟨i0, i1⟩, ?_⟩⟩
        · rw [wr_rd] at q2
          rw [show st3 m2 x i = m2 from pif_f q2] at g3
          exact g3
        · rw [wr_rd] at q2
          refine Wx.callV (x := iX4_runSlot) (y := iX4_beginTarget) (k := 26) (avs := [_, _]) (rest := []) hC hN tkX4_runSlot rfl rfl kX4_beginTarget rfl (M_beginTarget _ _ _ _ _ hI2 (by rw [y2]; exact w0) (by rw [y2]; exact w1)) ⟨rfl, rfl⟩ rfl (Nat.le_of_ble_eq_true rfl) (by exact nol rfl) ?_
          rintro r mm' o' ⟨rfl, rfl, rfl⟩
          rw [show st3 m2 x i = _ from pif_t q2] at g3
          exact g3
      have hI2 : IA (st2 (alertC m9 x (27 * x + i) i) x i) := IA_of hI1 (fun k a j hk => rd_st2 _ _ _ _ _ _ (by omega))
      have hC2 : IC (st2 (alertC m9 x (27 * x + i) i) x i) x := IC_st2 hI1 hC1 i0 i1
      have y2 : rd (st2 (alertC m9 x (27 * x + i) i) x i) 26 x 8 = rd mm 26 x 8 := (rd_st2 _ _ _ _ _ _ (by omega)).trans y1
      have g2 := go2 _ rfl hI2 hC2 y2
      refine wpx hC tkX4_runSlot hF [86] 200 ?_
      refine ⟨fun q2 => ?_, fun q2 => ⟨⟨i0, i1⟩, ?_⟩⟩
      · rw [wr_rd] at q2
        rw [show st2 (alertC m9 x (27 * x + i) i) x i = _ from pif_f q2] at g2
        exact g2
      · rw [wr_rd] at q2
        refine Wx.callV (x := iX4_runSlot) (y := iX4_resume) (k := 26) (avs := [_, _]) (rest := []) hC hN tkX4_runSlot rfl rfl kX4_resume rfl (M_resume _ _ _ _ _ hI1 (IW_of hC1) (by rw [y1]; exact w0) (by rw [y1]; exact w1)) ⟨rfl, rfl⟩ rfl (Nat.le_of_ble_eq_true rfl) (by exact nol rfl) ?_
        rintro r mm' o' ⟨rfl, rfl, rfl⟩
        rw [show st2 (alertC m9 x (27 * x + i) i) x i = _ from pif_t q2] at g2
        exact g2
    · rw [wr_seenC] at q
      refine Wx.callV (x := iX4_runSlot) (y := iX4_breakOff) (k := 26) (avs := [_]) (rest := []) hC hN tkX4_runSlot rfl rfl kX4_breakOff rfl (M_breakOff _ _ _ _ hI9 hvO) ⟨rfl, rfl⟩ rfl (Nat.le_of_ble_eq_true rfl) (by exact nol rfl) ?_
      rintro r mm' o' ⟨rfl, rfl, rfl⟩
      refine wpx hC tkX4_runSlot hF [2, 133] 200 ?_
      refine ⟨⟨i0, i1⟩, ⟨i0, i1⟩, ?_⟩
      refine Wx.pick [0, 1] rfl (next _ ?_)
      exact (pif_t q).symm
  have I1 := IA_site hI x 0
  have C1 := IC_site hI h (by decide : (0 : Int) ≤ 0) (by decide)
  have I2 := IA_site I1 x (0 + 1)
  have C2 := IC_site I1 C1 (by decide : (0 : Int) ≤ 0 + 1) (by decide)
  have I3 := IA_site I2 x (0 + 1 + 1)
  have C3 := IC_site I2 C2 (by decide : (0 : Int) ≤ 0 + 1 + 1) (by decide)
  have a1 : rd (siteC mm x 0) 26 x 8 = rd mm 26 x 8 := rd_site _ _ _ _ _ _ lv268
  have a2 : rd (siteC (siteC mm x 0) x (0 + 1)) 26 x 8 = rd mm 26 x 8 := (rd_site _ _ _ _ _ _ lv268).trans a1
  have a3 : rd (sitesC mm x) 26 x 8 = rd mm 26 x 8 := (rd_site _ _ _ _ _ _ lv268).trans a2
  refine wpx hC tkX4_runSlot hF [2] 200 ?_
  refine site 0 mm _ (by decide) (by decide) rfl hI h rfl ?_
  refine site (0 + 1) _ _ (by decide) (by decide) rfl I1 C1 a1 ?_
  refine site (0 + 1 + 1) _ _ (by decide) (by decide) rfl I2 C2 a2 ?_
  refine wpx hC tkX4_runSlot hF [] 200 ?_
  refine ⟨fun _ => ⟨by decide, ?_⟩, fun q => absurd (by decide) q⟩
  have hIt : IA (tick (sitesC mm x) x) := IA_of I3 (fun k a j hk => rd_st_ne (by omega))
  have hCt : IC (tick (sitesC mm x) x) x := IC_same C3 (fun w j => rd_st_ne (by decide)) (fun t => rd_st_ne (by decide)) (by unfold tick; rw [rd_st_ne (by decide)]; exact C3.2.2)
  have hj : wr (jrem (rd (tick (sitesC mm x) x) 26 x 8) 24) = jrem (rd (tick (sitesC mm x) x) 26 x 8) 24 := by
    have e9 : rd (tick (sitesC mm x) x) 26 x 8 = rd mm 26 x 8 + 1 := by
      unfold tick
      rw [rd_st, if_pos ⟨rfl, rfl, rfl⟩, wr_wr, a3, wr_of (by omega) (by omega)]
    rw [e9, jrem24 (by omega) (by omega), wr_of (by omega) (by omega)]
  refine ⟨fun q => ?_, fun q => ?_⟩
  · replace q : ¬ wr (jrem (rd (tick (sitesC mm x) x) 26 x 8) 24) = 0 := q
    rw [hj] at q
    exact ⟨rfl, pif_f q, rfl⟩
  · replace q : wr (jrem (rd (tick (sitesC mm x) x) 26 x 8) 24) = 0 := q
    rw [hj] at q
    refine Wx.callV (x := iX4_runSlot) (y := iX4_endNight) (k := 26) (avs := []) (rest := []) hC hN tkX4_runSlot rfl rfl kX4_endNight rfl (M_endNight _ (tick (sitesC mm x) x) _ hIt hCt) ⟨rfl, rfl⟩ rfl (Nat.le_of_ble_eq_true rfl) (by exact nol rfl) ?_
    rintro r mm' o' ⟨rfl, rfl, rfl⟩
    refine wpx hC tkX4_runSlot hF [] 200 ?_
    exact ⟨rfl, pif_t q, rfl⟩
