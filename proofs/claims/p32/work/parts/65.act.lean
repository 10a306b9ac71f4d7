/-! ===== act, kind by kind (made by wip/p32/actgen.py) ===== -/
theorem LV_keep {lo : Int} {a a' w : Mm} (h : LVR lo a w) (hJ : JV a') (h5 : ∀ j, rd a' 5 0 j = rd a 5 0 j) : LVR lo a' w := by
  obtain ⟨-, hn, h2, h3, h4⟩ := h
  unfold LVR
  rw [h5, h5, h5]
  exact ⟨hJ, hn, h2, h3, h4⟩
theorem uf_o (a : Mm) (s n c : Int) (k : Nat) (i j : Int) (h : k ≠ 14) (h2 : k ≠ 15) : rd (ufC a s n c) k i j = rd a k i j := by
  have ufo : ∀ (q : Nat) (j' : Int) (m : Mm), rd (ufL s c q j' m) k i j = rd m k i j := by
    intro q
    induction q with
    | zero => intro j' m; rfl
    | succ q ih =>
      intro j' m
      show rd (pif (rd m 15 s j' = 0) (ufL s c q (j' + 1) (st m 14 s j' (wr c))) m) k i j = _
      by_cases e : rd m 15 s j' = 0
      · rw [pif_t e, ih, rd_st_ne h]
      · rw [pif_f e]
  unfold ufC
  rw [ufo, rd_st_ne h, rd_st_ne h2]
section CTX
variable {p : Program} {l : Launch} {e : Env} {s : State} {m : MethodId} {args : Array Value} {below : List Frame} {meth : Method} {c : Code} {Q : State → Prop} {V : Nat → Int → Prop} {D : DD} {ad : Nat → Int → Nat} {A : Nat → Prop}
set_option maxRecDepth 100000 in
set_option maxHeartbeats 3200000 in
theorem act_k0 {a w : Mm} {y : Int} {o : Int64} (hC : Cx V RL cL_act 6 p (mrmT iL_act 12) s m args meth c D ad A) (hN : wNest s) (hT : wThr A s) (hR : wNar s) (hst : l.stackTraces = false) (hL : LVR 3 a w) (hF : ∀ r mm o, actF a w 0 r mm o → rOK p l e (mrmT iL_act 12) s m args below meth c 12 (6 * 12) Q V D ad A cL_act 1 r mm o) : Wx p l e (mrmT iL_act 12) s m args below meth c 0 0 Q V D ad A 6 60 [(0, xr 1 0), (1, xr 40 0), (2, xi y), (3, xi 0)] [] (mix a w) o := by
  obtain ⟨hJ, ⟨n0, n1, n2⟩, ⟨p0, p1⟩, ⟨q0, q1⟩, r1⟩ := id hL
  have hI := hJ.1.1.1
  have r0 := hI.2.2.2.2.2.1
  have l1 := low_r y (n := 5) (by decide) (by decide)
  have w1 := wr_low y (n := 5) (by decide) (by decide)
  have l2 := low_r (jshr y 3) (n := 11) (by decide) (by decide)
  have w2 := wr_low (jshr y 3) (n := 11) (by decide) (by decide)
  have l3 := low_r (jshr y 5) (n := 102) (by decide) (by decide)
  have w3 := wr_low (jshr y 5) (n := 102) (by decide) (by decide)
  have l4 := low_r (jshr y 7) (n := 32) (by decide) (by decide)
  have w4 := wr_low (jshr y 7) (n := 32) (by decide) (by decide)
  have tail : ∀ (v : Int) (a' : Mm) (o : Int64), wr v = v → ((v < 0 ∧ a' = a) ∨ (0 ≤ v ∧ JV a' ∧ rd a' 5 0 6 = rd a 5 0 6 + 1 ∧ rd a' 5 0 7 = rd a 5 0 7 ∧ rd a' 5 0 8 = rd a 5 0 8 ∧ rd a 5 0 6 < 6)) → Wx p l e (mrmT iL_act 12) s m args below meth c 12 (6 * 12) Q V D ad A 6 107 [(0, xr 1 0), (1, xr 40 0), (2, xi y), (3, xi 0)] [xi v] (mix a' w) o := by
    intro v a' o hv hc
    refine wpn hC ⟨by decide, by decide⟩ tkL_act hF [] 200 ?_
    refine ⟨by decide, fun q => ⟨by decide, ?_⟩, fun q => ⟨by decide, ?_⟩⟩
    · rw [hv] at q
      obtain ⟨h0, h1, h2, h3, h4, h5⟩ := hc.resolve_left (fun h => by omega)
      refine ⟨v, a', st w 40 0 0 (wr (rd w 40 0 0 + 1)), rfl, st_mix _ _ (by decide) _ _ _, ⟨h1, ?_, ?_, ?_, ?_⟩, hv, fun k i z h => w_ne _ _ _ _ _ _ h, Or.inl ⟨by omega, by decide⟩⟩
      · rw [rd_w _ _ _ _ (by omega), rd_w _ _ _ _ (by omega), rd_w _ _ _ _ (by omega)]
        exact ⟨by rw [if_pos rfl]; omega, by rw [if_neg (by decide)]; omega, by rw [if_neg (by decide)]; omega⟩
      · omega
      · omega
      · omega
    · rw [hv] at q
      obtain ⟨h0, rfl⟩ := hc.resolve_right (fun h => by omega)
      obtain ⟨g1, g2⟩ := LV_0 hL (j := 0) (by decide)
      exact ⟨v, a', st w 40 0 0 (wr (rd w 40 0 0 + 0)), rfl, st_mix _ _ (by decide) _ _ _, g1, hv, fun k i z h => w_ne _ _ _ _ _ _ h, Or.inr (fun z _ _ => by rw [g2])⟩
  refine wpk hC ⟨by show (_ : Nat) ≤ 12; omega, by show (_ : Nat) ≤ 6 * 12; omega⟩ tkL_act [107] 200 ?_
  refine ⟨by decide, fun q => ?_, fun _ => Wx.widen (k := 12) (n := 6 * 12) (by decide) (by decide) (tail (-9) a o rfl (Or.inl ⟨by decide, rfl⟩))⟩
  rw [rd40, wr_rd, show wr 6 = 6 from rfl] at q
  refine Wx.sT (y := iL_low) (k := 0) (avs := [_, _]) (rest := [_]) hC hN hT hst tkL_act rfl rfl rfl kL_low ⟨by decide, by decide⟩ (M_low _ _ _ _ (by decide)) (fun _ _ _ h => h) rfl (Nat.le_of_ble_eq_true rfl) rfl rfl ⟨by show (_ : Nat) ≤ 12; omega, by show (_ : Nat) ≤ 6 * 12; omega⟩ ?_
  rintro r mm' o' ⟨rfl, rfl, rfl⟩
  refine wpk hC ⟨by show (_ : Nat) ≤ 12; omega, by show (_ : Nat) ≤ 6 * 12; omega⟩ tkL_act [] 200 ?_
  refine Wx.sT (y := iL_low) (k := 0) (avs := [_, _]) (rest := [_, _]) hC hN hT hst tkL_act rfl rfl rfl kL_low ⟨by decide, by decide⟩ (M_low _ _ _ _ (by decide)) (fun _ _ _ h => h) rfl (Nat.le_of_ble_eq_true rfl) rfl rfl ⟨by show (_ : Nat) ≤ 12; omega, by show (_ : Nat) ≤ 6 * 12; omega⟩ ?_
  rintro r mm' o' ⟨rfl, rfl, rfl⟩
  refine wpk hC ⟨by show (_ : Nat) ≤ 12; omega, by show (_ : Nat) ≤ 6 * 12; omega⟩ tkL_act [] 200 ?_
  refine Wx.sT (y := iL_low) (k := 0) (avs := [_, _]) (rest := [_, _, _]) hC hN hT hst tkL_act rfl rfl rfl kL_low ⟨by decide, by decide⟩ (M_low _ _ _ _ (by decide)) (fun _ _ _ h => h) rfl (Nat.le_of_ble_eq_true rfl) rfl rfl ⟨by show (_ : Nat) ≤ 12; omega, by show (_ : Nat) ≤ 6 * 12; omega⟩ ?_
  rintro r mm' o' ⟨rfl, rfl, rfl⟩
  refine wpk hC ⟨by show (_ : Nat) ≤ 12; omega, by show (_ : Nat) ≤ 6 * 12; omega⟩ tkL_act [] 200 ?_
  refine Wx.sT (y := iL_low) (k := 0) (avs := [_, _]) (rest := [_, _, _, _]) hC hN hT hst tkL_act rfl rfl rfl kL_low ⟨by decide, by decide⟩ (M_low _ _ _ _ (by decide)) (fun _ _ _ h => h) rfl (Nat.le_of_ble_eq_true rfl) rfl rfl ⟨by show (_ : Nat) ≤ 12; omega, by show (_ : Nat) ≤ 6 * 12; omega⟩ ?_
  rintro r mm' o' ⟨rfl, rfl, rfl⟩
  refine wpk hC ⟨by show (_ : Nat) ≤ 12; omega, by show (_ : Nat) ≤ 6 * 12; omega⟩ tkL_act [] 200 ?_
  refine Wx.cW (y := iL_proposals) (k := 5) (avs := [_, _, _, _]) (rest := []) hC hN hT hR hst tkL_act rfl rfl rfl kL_proposals ⟨by decide, by decide⟩ (W_proposals a o (lowC y 5) (lowC (jshr y 3) 11) (lowC (jshr y 5) 102) (lowC (jshr y 7) 32) w1 w2 w3 w4 hI) rfl (Nat.le_of_ble_eq_true rfl) rfl ⟨by show (_ : Nat) ≤ 12; omega, by show (_ : Nat) ≤ 6 * 12; omega⟩ ?_
  rintro r a' o' ⟨rfl, rfl⟩
  refine Wx.widen (k := 12) (n := 6 * 12) (by omega) (by omega) (tail _ _ _ ?_ ?_)
  · generalize ck (ixC (lowC y 5) 4) _ = chk
    by_cases hc : chk = none
    · rw [cdN_n hc]; exact wr_rd _ _ _ _
    · have := cdN_s (v := rd a 5 0 6) hc
      exact wr_of (by omega) (by omega)
  · by_cases hc : ck (ixC (lowC y 5) 4) (ck (rgC (lowC (jshr y 3) 11) 0 9) (ck (rgC (lowC (jshr y 5) 102) 0 100) (ck (rgC (lowC (jshr y 7) 32) 0 30) (stC (bz (rd a 5 0 6 < 8)))))) = none
    · rw [cdN_n hc, pif_t hc]
      obtain ⟨c1, hc⟩ := ck_of hc
      obtain ⟨c2, hc⟩ := ck_of hc
      obtain ⟨c3, hc⟩ := ck_of hc
      obtain ⟨c4, c5⟩ := ck_of hc
      have b1 := ix_of c1
      have b4 := rg_of c4
      obtain ⟨g1, g2, g3, g4⟩ := JV_prop (r := lowC (jshr y 3) 11) (q := lowC (jshr y 5) 102) hJ b1.1 b1.2 b4.1 b4.2 (st_bz c5)
      exact Or.inr ⟨by omega, g1, g2, g3, g4, by omega⟩
    · have := cdN_s (v := rd a 5 0 6) hc
      rw [pif_f hc]
      exact Or.inl ⟨by omega, rfl⟩
set_option maxRecDepth 100000 in
set_option maxHeartbeats 3200000 in
theorem act_k1 {a w : Mm} {y kd : Int} {o : Int64} (hC : Cx V RL cL_act 6 p (mrmT iL_act 12) s m args meth c D ad A) (hN : wNest s) (hT : wThr A s) (hR : wNar s) (hst : l.stackTraces = false) (hL : LVR 3 a w) (hkd : ¬ kd = 9) (hF : ∀ r mm o, actF a w kd r mm o → rOK p l e (mrmT iL_act 12) s m args below meth c 12 (6 * 12) Q V D ad A cL_act 1 r mm o) : Wx p l e (mrmT iL_act 12) s m args below meth c 0 0 Q V D ad A 6 128 [(0, xr 1 0), (1, xr 40 0), (2, xi y), (3, xi kd)] [] (mix a w) o := by
  obtain ⟨hJ, ⟨n0, n1, n2⟩, ⟨p0, p1⟩, ⟨q0, q1⟩, r1⟩ := id hL
  have hI := hJ.1.1.1
  have r0 := hI.2.2.2.2.2.1
  have tail : ∀ (v : Int) (a' : Mm) (o : Int64), wr v = v → ((v < 0 ∧ a' = a) ∨ (0 ≤ v ∧ JV a' ∧ rd a' 5 0 7 = rd a 5 0 7 + 1 ∧ rd a' 5 0 6 = rd a 5 0 6 ∧ rd a' 5 0 8 = rd a 5 0 8 ∧ rd a 5 0 7 < 12)) → Wx p l e (mrmT iL_act 12) s m args below meth c 12 (6 * 12) Q V D ad A 6 155 [(0, xr 1 0), (1, xr 40 0), (2, xi y), (3, xi kd)] [xi v] (mix a' w) o := by
    intro v a' o hv hc
    refine wpn hC ⟨by decide, by decide⟩ tkL_act hF [] 200 ?_
    refine ⟨by decide, fun q => ⟨by decide, ?_⟩, fun q => ⟨by decide, ?_⟩⟩
    · rw [hv] at q
      obtain ⟨h0, h1, h2, h3, h4, h5⟩ := hc.resolve_left (fun h => by omega)
      refine ⟨v, a', st w 40 0 1 (wr (rd w 40 0 1 + 1)), rfl, st_mix _ _ (by decide) _ _ _, ⟨h1, ?_, ?_, ?_, ?_⟩, hv, fun k i z h => w_ne _ _ _ _ _ _ h, Or.inl ⟨by omega, hkd⟩⟩
      · rw [rd_w _ _ _ _ (by omega), rd_w _ _ _ _ (by omega), rd_w _ _ _ _ (by omega)]
        exact ⟨by rw [if_neg (by decide)]; omega, by rw [if_pos rfl]; omega, by rw [if_neg (by decide)]; omega⟩
      · omega
      · omega
      · omega
    · rw [hv] at q
      obtain ⟨h0, rfl⟩ := hc.resolve_right (fun h => by omega)
      obtain ⟨g1, g2⟩ := LV_0 hL (j := 1) (by decide)
      exact ⟨v, a', st w 40 0 1 (wr (rd w 40 0 1 + 0)), rfl, st_mix _ _ (by decide) _ _ _, g1, hv, fun k i z h => w_ne _ _ _ _ _ _ h, Or.inr (fun z _ _ => by rw [g2])⟩
  have wn : wr (rd w 40 0 0 + 1) = rd w 40 0 0 + 1 := wr_of (by omega) (by omega)
  have l1 := low_r y (n := rd w 40 0 0 + 1) (by omega) (by omega)
  have w1 := wr_low y (n := rd w 40 0 0 + 1) (by omega) (by omega)
  refine wpk hC ⟨by show (_ : Nat) ≤ 12; omega, by show (_ : Nat) ≤ 6 * 12; omega⟩ tkL_act [155] 200 ?_
  refine ⟨by decide, fun q => ⟨by decide, ?_⟩, fun _ => Wx.widen (k := 12) (n := 6 * 12) (by decide) (by decide) (tail (-9) a o rfl (Or.inl ⟨by decide, rfl⟩))⟩
  rw [rd40, wr_rd, show wr 12 = 12 from rfl] at q
  rw [rd40]
  refine Wx.sT (y := iL_low) (k := 0) (avs := [_, _]) (rest := [_]) hC hN hT hst tkL_act rfl rfl rfl kL_low ⟨by decide, by decide⟩ (M_low _ _ _ _ ((by rw [wn]; omega))) (fun _ _ _ h => h) rfl (Nat.le_of_ble_eq_true rfl) rfl rfl ⟨by show (_ : Nat) ≤ 12; omega, by show (_ : Nat) ≤ 6 * 12; omega⟩ ?_
  rintro r mm' o' ⟨rfl, rfl, rfl⟩
  refine wpk hC ⟨by show (_ : Nat) ≤ 12; omega, by show (_ : Nat) ≤ 6 * 12; omega⟩ tkL_act [] 200 ?_
  refine Wx.cW (y := iL_targets) (k := 10) (avs := [_, _]) (rest := []) hC hN hT hR hst tkL_act rfl rfl rfl kL_targets ⟨by decide, by decide⟩ (W_targets a o (lowC y (rd w 40 0 0 + 1)) y w1 hI) rfl (Nat.le_of_ble_eq_true rfl) rfl ⟨by show (_ : Nat) ≤ 12; omega, by show (_ : Nat) ≤ 6 * 12; omega⟩ ?_
  rintro r a' o' ⟨rfl, rfl⟩
  refine Wx.widen (k := 12) (n := 6 * 12) (by omega) (by omega) (tail _ _ _ ?_ ?_)
  · generalize ck (ixC (lowC y (rd w 40 0 0 + 1)) (rd a 5 0 6)) _ = chk
    by_cases hc : chk = none
    · rw [cdN_n hc]; exact wr_rd _ _ _ _
    · have := cdN_s (v := rd a 5 0 7) hc
      exact wr_of (by omega) (by omega)
  · by_cases hc : ck (ixC (lowC y (rd w 40 0 0 + 1)) (rd a 5 0 6)) (ck (ixC (jdiv (lowC (jshr y 7) 6) 5) 3) (ck (ck (rgC (lowC y 361) 0 359) (rgC (lowC (jshr y 3) 120 - 60) (-90) 90)) (ck (rgC (1 + lowC (jshr y 5) 6) 1 6) (ck (rgC (lowC (jshr y 6) 50) 0 90) (ck (rgC (20 + lowC (jshr y 8) 81) 0 100) (ck (rgC (5 + lowC (jshr y 9) 46) 1 50) (ck (rgC (1 + lowC (jshr y 4) 5) 1 10) (stC (bz (rd a 5 0 7 < 24)))))))))) = none
    · rw [cdN_n hc, pif_t hc]
      obtain ⟨c1, hc⟩ := ck_of hc
      obtain ⟨c2, hc⟩ := ck_of hc
      obtain ⟨-, hc⟩ := ck_of hc
      obtain ⟨c3, hc⟩ := ck_of hc
      obtain ⟨-, hc⟩ := ck_of hc
      obtain ⟨-, hc⟩ := ck_of hc
      obtain ⟨-, hc⟩ := ck_of hc
      obtain ⟨-, c5⟩ := ck_of hc
      have b1 := ix_of c1
      have b2 := ix_of c2
      have b3 := rg_of c3
      obtain ⟨g1, g2, g3, g4⟩ := JV_target (b := lowC y 361) (y := lowC (jshr y 3) 120 - 60) (f := lowC (jshr y 6) 50) (g := 20 + lowC (jshr y 8) 81) (v := 5 + lowC (jshr y 9) 46) (w := 1 + lowC (jshr y 4) 5) hJ b1.1 b1.2 b3.1 b3.2 b2.1 b2.2 (st_bz c5)
      exact Or.inr ⟨by have := hI.2.2.2.2.1.1; omega, g1, g2, g3, g4, by omega⟩
    · have := cdN_s (v := rd a 5 0 7) hc
      rw [pif_f hc]
      exact Or.inl ⟨by omega, rfl⟩
set_option maxRecDepth 100000 in
set_option maxHeartbeats 3200000 in
theorem act_k3 {a w : Mm} {y : Int} {o : Int64} (hC : Cx V RL cL_act 6 p (mrmT iL_act 12) s m args meth c D ad A) (hN : wNest s) (hT : wThr A s) (hR : wNar s) (hst : l.stackTraces = false) (hL : LVR 3 a w) (hF : ∀ r mm o, actF a w 3 r mm o → rOK p l e (mrmT iL_act 12) s m args below meth c 12 (6 * 12) Q V D ad A cL_act 1 r mm o) : Wx p l e (mrmT iL_act 12) s m args below meth c 0 0 Q V D ad A 6 176 [(0, xr 1 0), (1, xr 40 0), (2, xi y), (3, xi 3)] [] (mix a w) o := by
  obtain ⟨hJ, ⟨n0, n1, n2⟩, ⟨p0, p1⟩, ⟨q0, q1⟩, r1⟩ := id hL
  have hI := hJ.1.1.1
  have r0 := hI.2.2.2.2.2.1
  have l1 := low_r (jshr y 3) (n := 31) (by decide) (by decide)
  have w1 := wr_low (jshr y 3) (n := 31) (by decide) (by decide)
  have l2 := low_r (jshr y 5) (n := 12) (by decide) (by decide)
  have w2 := wr_low (jshr y 5) (n := 12) (by decide) (by decide)
  have l3 := low_r (jshr y 7) (n := 4) (by decide) (by decide)
  have w3 := wr_low (jshr y 7) (n := 4) (by decide) (by decide)
  have wn : wr (rd w 40 0 1 + 1) = rd w 40 0 1 + 1 := wr_of (by omega) (by omega)
  have w0 := wr_low y (n := rd w 40 0 1 + 1) (by omega) (by omega)
  refine wpk hC ⟨by show (_ : Nat) ≤ 12; omega, by show (_ : Nat) ≤ 6 * 12; omega⟩ tkL_act [] 200 ?_
  refine ⟨by decide, ?_⟩
  rw [rd40]
  refine Wx.sT (y := iL_low) (k := 0) (avs := [_, _]) (rest := [_]) hC hN hT hst tkL_act rfl rfl rfl kL_low ⟨by decide, by decide⟩ (M_low _ _ _ _ ((by rw [wn]; omega))) (fun _ _ _ h => h) rfl (Nat.le_of_ble_eq_true rfl) rfl rfl ⟨by show (_ : Nat) ≤ 12; omega, by show (_ : Nat) ≤ 6 * 12; omega⟩ ?_
  rintro r mm' o' ⟨rfl, rfl, rfl⟩
  refine wpk hC ⟨by show (_ : Nat) ≤ 12; omega, by show (_ : Nat) ≤ 6 * 12; omega⟩ tkL_act [] 200 ?_
  refine Wx.sT (y := iL_low) (k := 0) (avs := [_, _]) (rest := [_, _]) hC hN hT hst tkL_act rfl rfl rfl kL_low ⟨by decide, by decide⟩ (M_low _ _ _ _ (by decide)) (fun _ _ _ h => h) rfl (Nat.le_of_ble_eq_true rfl) rfl rfl ⟨by show (_ : Nat) ≤ 12; omega, by show (_ : Nat) ≤ 6 * 12; omega⟩ ?_
  rintro r mm' o' ⟨rfl, rfl, rfl⟩
  refine wpk hC ⟨by show (_ : Nat) ≤ 12; omega, by show (_ : Nat) ≤ 6 * 12; omega⟩ tkL_act [] 200 ?_
  refine Wx.sT (y := iL_low) (k := 0) (avs := [_, _]) (rest := [_, _, _]) hC hN hT hst tkL_act rfl rfl rfl kL_low ⟨by decide, by decide⟩ (M_low _ _ _ _ (by decide)) (fun _ _ _ h => h) rfl (Nat.le_of_ble_eq_true rfl) rfl rfl ⟨by show (_ : Nat) ≤ 12; omega, by show (_ : Nat) ≤ 6 * 12; omega⟩ ?_
  rintro r mm' o' ⟨rfl, rfl, rfl⟩
  refine wpk hC ⟨by show (_ : Nat) ≤ 12; omega, by show (_ : Nat) ≤ 6 * 12; omega⟩ tkL_act [] 200 ?_
  refine Wx.sT (y := iL_low) (k := 0) (avs := [_, _]) (rest := [_, _, _, _]) hC hN hT hst tkL_act rfl rfl rfl kL_low ⟨by decide, by decide⟩ (M_low _ _ _ _ (by decide)) (fun _ _ _ h => h) rfl (Nat.le_of_ble_eq_true rfl) rfl rfl ⟨by show (_ : Nat) ≤ 12; omega, by show (_ : Nat) ≤ 6 * 12; omega⟩ ?_
  rintro r mm' o' ⟨rfl, rfl, rfl⟩
  refine wpk hC ⟨by show (_ : Nat) ≤ 12; omega, by show (_ : Nat) ≤ 6 * 12; omega⟩ tkL_act [] 200 ?_
  refine Wx.cW (y := iL_rows) (k := 6) (avs := [_, _, _, _]) (rest := []) hC hN hT hR hst tkL_act rfl rfl rfl kL_rows ⟨by decide, by decide⟩ (W_rows a o (lowC y (rd w 40 0 1 + 1)) (lowC (jshr y 3) 31) (lowC (jshr y 5) 12) (lowC (jshr y 7) 4) w0 w1 w2 w3 hI) rfl (Nat.le_of_ble_eq_true rfl) rfl ⟨by show (_ : Nat) ≤ 12; omega, by show (_ : Nat) ≤ 6 * 12; omega⟩ ?_
  rintro r a' o' ⟨rfl, rfl⟩
  refine Wx.widen (k := 12) (n := 6 * 12) (by omega) (by omega) ?_
  refine wpn hC ⟨by decide, by decide⟩ tkL_act hF [] 200 ?_
  generalize ck (ixC (lowC y (rd w 40 0 1 + 1)) (rd a 5 0 7)) _ = chk
  by_cases hc : chk = none
  · obtain ⟨g1, g2⟩ := JV_series hJ (lowC y (rd w 40 0 1 + 1)) (lowC (jshr y 3) 31) (lowC (jshr y 5) 12) (lowC (jshr y 7) 4)
    rw [cdN_n hc, pif_t hc]
    exact ⟨0, _, w, rfl, rfl, LV_keep hL g1 g2, rfl, fun _ _ _ _ => rfl, Or.inl ⟨by decide, by decide⟩⟩
  · have := cdN_s (v := 0) hc
    rw [pif_f hc]
    exact ⟨_, a, w, rfl, rfl, hL, wr_of (by omega) (by omega), fun _ _ _ _ => rfl, Or.inr (fun _ _ _ => rfl)⟩
set_option maxRecDepth 100000 in
set_option maxHeartbeats 3200000 in
theorem act_k4 {a w : Mm} {y : Int} {o : Int64} (hC : Cx V RL cL_act 6 p (mrmT iL_act 12) s m args meth c D ad A) (hN : wNest s) (hT : wThr A s) (hR : wNar s) (hst : l.stackTraces = false) (hL : LVR 3 a w) (hF : ∀ r mm o, actF a w 4 r mm o → rOK p l e (mrmT iL_act 12) s m args below meth c 12 (6 * 12) Q V D ad A cL_act 1 r mm o) : Wx p l e (mrmT iL_act 12) s m args below meth c 0 0 Q V D ad A 6 214 [(0, xr 1 0), (1, xr 40 0), (2, xi y), (3, xi 4)] [] (mix a w) o := by
  obtain ⟨hJ, ⟨n0, n1, n2⟩, ⟨p0, p1⟩, ⟨q0, q1⟩, r1⟩ := id hL
  have hI := hJ.1.1.1
  have r0 := hI.2.2.2.2.2.1
  have l1 := low_r (jshr y 5) (n := 25) (by decide) (by decide)
  have w1 := wr_low (jshr y 5) (n := 25) (by decide) (by decide)
  have l2 := low_r y (n := 5) (by decide) (by decide)
  have w2 := wr_low y (n := 5) (by decide) (by decide)
  have l3 := low_r (jshr y 2) (n := 10) (by decide) (by decide)
  have w3 := wr_low (jshr y 2) (n := 10) (by decide) (by decide)
  have l4 := low_r (jshr y 7) (n := 25) (by decide) (by decide)
  have w4 := wr_low (jshr y 7) (n := 25) (by decide) (by decide)
  have tail : ∀ (v : Int) (a' : Mm) (o : Int64), wr v = v → ((v < 0 ∧ a' = a) ∨ (0 ≤ v ∧ JV a' ∧ rd a' 5 0 8 = rd a 5 0 8 + 1 ∧ rd a' 5 0 6 = rd a 5 0 6 ∧ rd a' 5 0 7 = rd a 5 0 7 ∧ rd a 5 0 8 < 8)) → Wx p l e (mrmT iL_act 12) s m args below meth c 12 (6 * 12) Q V D ad A 6 273 [(0, xr 1 0), (1, xr 40 0), (2, xi y), (3, xi 4), (4, xi (lowC (jshr y 5) 25))] [xi v] (mix a' w) o := by
    intro v a' o hv hc
    refine wpn hC ⟨by decide, by decide⟩ tkL_act hF [] 200 ?_
    refine ⟨by decide, fun q => ⟨by decide, ?_⟩, fun q => ⟨by decide, ?_⟩⟩
    · rw [hv] at q
      obtain ⟨h0, h1, h2, h3, h4, h5⟩ := hc.resolve_left (fun h => by omega)
      refine ⟨v, a', st w 40 0 2 (wr (rd w 40 0 2 + 1)), rfl, st_mix _ _ (by decide) _ _ _, ⟨h1, ?_, ?_, ?_, ?_⟩, hv, fun k i z h => w_ne _ _ _ _ _ _ h, Or.inl ⟨by omega, by decide⟩⟩
      · rw [rd_w _ _ _ _ (by omega), rd_w _ _ _ _ (by omega), rd_w _ _ _ _ (by omega)]
        exact ⟨by rw [if_neg (by decide)]; omega, by rw [if_neg (by decide)]; omega, by rw [if_pos rfl]; omega⟩
      · omega
      · omega
      · omega
    · rw [hv] at q
      obtain ⟨h0, rfl⟩ := hc.resolve_right (fun h => by omega)
      obtain ⟨g1, g2⟩ := LV_0 hL (j := 2) (by decide)
      exact ⟨v, a', st w 40 0 2 (wr (rd w 40 0 2 + 0)), rfl, st_mix _ _ (by decide) _ _ _, g1, hv, fun k i z h => w_ne _ _ _ _ _ _ h, Or.inr (fun z _ _ => by rw [g2])⟩
  have hw0 := hJ.2.2.1
  have hw1 := hJ.2.2.2
  have ed : jdiv (rd a 26 0 8) 24 = rd a 26 0 8 / 24 := jdiv24 hw0 (by omega)
  refine wpk hC ⟨by show (_ : Nat) ≤ 12; omega, by show (_ : Nat) ≤ 6 * 12; omega⟩ tkL_act [] 200 ?_
  refine Wx.sT (y := iL_low) (k := 0) (avs := [_, _]) (rest := []) hC hN hT hst tkL_act rfl rfl rfl kL_low ⟨by decide, by decide⟩ (M_low _ _ _ _ (by decide)) (fun _ _ _ h => h) rfl (Nat.le_of_ble_eq_true rfl) rfl rfl ⟨by show (_ : Nat) ≤ 12; omega, by show (_ : Nat) ≤ 6 * 12; omega⟩ ?_
  rintro r mm' o' ⟨rfl, rfl, rfl⟩
  refine wpk hC ⟨by show (_ : Nat) ≤ 12; omega, by show (_ : Nat) ≤ 6 * 12; omega⟩ tkL_act [273] 200 ?_
  refine ⟨by decide, fun q => ?_, fun _ => Wx.widen (k := 12) (n := 6 * 12) (by decide) (by decide) (tail (-9) a o rfl (Or.inl ⟨by decide, rfl⟩))⟩
  rw [rd40, wr_rd, show wr 8 = 8 from rfl] at q
  refine Wx.sT (y := iL_low) (k := 0) (avs := [_, _]) (rest := [_]) hC hN hT hst tkL_act rfl rfl rfl kL_low ⟨by decide, by decide⟩ (M_low _ _ _ _ (by decide)) (fun _ _ _ h => h) rfl (Nat.le_of_ble_eq_true rfl) rfl rfl ⟨by show (_ : Nat) ≤ 12; omega, by show (_ : Nat) ≤ 6 * 12; omega⟩ ?_
  rintro r mm' o' ⟨rfl, rfl, rfl⟩
  refine wpk hC ⟨by show (_ : Nat) ≤ 12; omega, by show (_ : Nat) ≤ 6 * 12; omega⟩ tkL_act [] 200 ?_
  refine Wx.sT (y := iL_low) (k := 0) (avs := [_, _]) (rest := [_, _]) hC hN hT hst tkL_act rfl rfl rfl kL_low ⟨by decide, by decide⟩ (M_low _ _ _ _ (by decide)) (fun _ _ _ h => h) rfl (Nat.le_of_ble_eq_true rfl) rfl rfl ⟨by show (_ : Nat) ≤ 12; omega, by show (_ : Nat) ≤ 6 * 12; omega⟩ ?_
  rintro r mm' o' ⟨rfl, rfl, rfl⟩
  refine wpk hC ⟨by show (_ : Nat) ≤ 12; omega, by show (_ : Nat) ≤ 6 * 12; omega⟩ tkL_act [] 200 ?_
  refine Wx.cX (y := iX10_now) (avs := []) (rest := [_, _, _]) hC hN tkL_act rfl rfl kX10_now ⟨by decide, by decide⟩ rfl (M_now a o) rfl (Nat.le_of_ble_eq_true rfl) rfl ⟨by show (_ : Nat) ≤ 12; omega, by show (_ : Nat) ≤ 6 * 12; omega⟩ ?_
  rintro r a' o' ⟨rfl, rfl, rfl⟩
  refine wpk hC ⟨by show (_ : Nat) ≤ 12; omega, by show (_ : Nat) ≤ 6 * 12; omega⟩ tkL_act [] 200 ?_
  refine ⟨by decide, ?_⟩
  rw [ed]
  refine Wx.sT (y := iL_low) (k := 0) (avs := [_, _]) (rest := [_, _, _, _, _]) hC hN hT hst tkL_act rfl rfl rfl kL_low ⟨by decide, by decide⟩ (M_low _ _ _ _ (by decide)) (fun _ _ _ h => h) rfl (Nat.le_of_ble_eq_true rfl) rfl rfl ⟨by show (_ : Nat) ≤ 12; omega, by show (_ : Nat) ≤ 6 * 12; omega⟩ ?_
  rintro r mm' o' ⟨rfl, rfl, rfl⟩
  refine wpk hC ⟨by show (_ : Nat) ≤ 12; omega, by show (_ : Nat) ≤ 6 * 12; omega⟩ tkL_act [] 200 ?_
  refine Wx.cW (y := iL_alarms) (k := 11) (avs := [_, _, _, _, _, _]) (rest := []) hC hN hT hR hst tkL_act rfl rfl rfl kL_alarms ⟨by decide, by decide⟩ (W_alarms a o (lowC y 5) (lowC (jshr y 2) 10) (rd a 26 0 8 / 24) (lowC (jshr y 5) 25) (lowC (jshr y 7) 25) y w2 w3 (wr_of (by omega) (by omega)) w1 w4 hI) rfl (Nat.le_of_ble_eq_true rfl) rfl ⟨by show (_ : Nat) ≤ 12; omega, by show (_ : Nat) ≤ 6 * 12; omega⟩ ?_
  rintro r a' o' ⟨rfl, rfl⟩
  refine Wx.widen (k := 12) (n := 6 * 12) (by omega) (by omega) (tail _ _ _ ?_ ?_)
  · generalize ck (ixC (lowC y 5) 4) _ = chk
    by_cases hc : chk = none
    · rw [cdN_n hc]; exact wr_rd _ _ _ _
    · have := cdN_s (v := rd a 5 0 8) hc
      exact wr_of (by omega) (by omega)
  · by_cases hc : ck (ixC (lowC y 5) 4) (ck (ixC 0 3) (ck (ixC (rd a 26 0 8 / 24) 30) (ck (ixC (lowC (jshr y 5) 25) 24) (ck (ixC (lowC (jshr y 7) 25) 24) (ck (rgC (lowC (jshr y 2) 10) 1 9) (ck (ck (rgC (lowC y 360) 0 359) (rgC (lowC (jshr y 3) 60 - 30) (-90) 90)) (ck (rgC (1 + lowC (jshr y 5) 6) 1 6) (ck (orC (lowC (jshr y 5) 25) (lowC (jshr y 7) 25)) (stC (bz (rd a 5 0 8 < 10))))))))))) = none
    · rw [cdN_n hc, pif_t hc]
      obtain ⟨c1, hc⟩ := ck_of hc
      obtain ⟨c2, hc⟩ := ck_of hc
      obtain ⟨-, hc⟩ := ck_of hc
      obtain ⟨-, hc⟩ := ck_of hc
      obtain ⟨-, hc⟩ := ck_of hc
      obtain ⟨-, hc⟩ := ck_of hc
      obtain ⟨-, hc⟩ := ck_of hc
      obtain ⟨c3, hc⟩ := ck_of hc
      obtain ⟨-, c5⟩ := ck_of hc
      have b1 := ix_of c1
      have b3 := rg_of c3
      obtain ⟨g1, g2, g3, g4⟩ := JV_alert (b := lowC (jshr y 2) 10) (c := lowC y 360) (d := lowC (jshr y 3) 60 - 30) (f := 0) (n := rd a 26 0 8 / 24) (u := lowC (jshr y 5) 25) (v := lowC (jshr y 7) 25) hJ b1.1 b1.2 b3.1 b3.2 (Int.le_refl _) (by decide) (st_bz c5)
      exact Or.inr ⟨r0, g1, g2, g3, g4, by omega⟩
    · have := cdN_s (v := rd a 5 0 8) hc
      rw [pif_f hc]
      exact Or.inl ⟨by omega, rfl⟩
set_option maxRecDepth 100000 in
set_option maxHeartbeats 3200000 in
theorem act_k5 {a w : Mm} {y : Int} {o : Int64} (hC : Cx V RL cL_act 6 p (mrmT iL_act 12) s m args meth c D ad A) (hN : wNest s) (hT : wThr A s) (hR : wNar s) (hst : l.stackTraces = false) (hL : LVR 3 a w) (hF : ∀ r mm o, actF a w 5 r mm o → rOK p l e (mrmT iL_act 12) s m args below meth c 12 (6 * 12) Q V D ad A cL_act 1 r mm o) : Wx p l e (mrmT iL_act 12) s m args below meth c 0 0 Q V D ad A 6 294 [(0, xr 1 0), (1, xr 40 0), (2, xi y), (3, xi 5)] [] (mix a w) o := by
  obtain ⟨hJ, ⟨n0, n1, n2⟩, ⟨p0, p1⟩, ⟨q0, q1⟩, r1⟩ := id hL
  have hI := hJ.1.1.1
  have r0 := hI.2.2.2.2.2.1
  have l1 := low_r y (n := 4) (by decide) (by decide)
  have w1 := wr_low y (n := 4) (by decide) (by decide)
  have l2 := low_r (jshr y 2) (n := 6) (by decide) (by decide)
  have w2 := wr_low (jshr y 2) (n := 6) (by decide) (by decide)
  have l3 := low_r (jshr y 5) (n := 6) (by decide) (by decide)
  have w3 := wr_low (jshr y 5) (n := 6) (by decide) (by decide)
  have ed : jdiv (lowC (jshr y 5) 6) 5 = lowC (jshr y 5) 6 / 5 := jdiv_of l3.1 (by omega) (by decide) (by decide)
  refine wpk hC ⟨by show (_ : Nat) ≤ 12; omega, by show (_ : Nat) ≤ 6 * 12; omega⟩ tkL_act [] 200 ?_
  refine Wx.sT (y := iL_low) (k := 0) (avs := [_, _]) (rest := [_]) hC hN hT hst tkL_act rfl rfl rfl kL_low ⟨by decide, by decide⟩ (M_low _ _ _ _ (by decide)) (fun _ _ _ h => h) rfl (Nat.le_of_ble_eq_true rfl) rfl rfl ⟨by show (_ : Nat) ≤ 12; omega, by show (_ : Nat) ≤ 6 * 12; omega⟩ ?_
  rintro r mm' o' ⟨rfl, rfl, rfl⟩
  refine wpk hC ⟨by show (_ : Nat) ≤ 12; omega, by show (_ : Nat) ≤ 6 * 12; omega⟩ tkL_act [] 200 ?_
  refine Wx.sT (y := iL_low) (k := 0) (avs := [_, _]) (rest := [_, _]) hC hN hT hst tkL_act rfl rfl rfl kL_low ⟨by decide, by decide⟩ (M_low _ _ _ _ (by decide)) (fun _ _ _ h => h) rfl (Nat.le_of_ble_eq_true rfl) rfl rfl ⟨by show (_ : Nat) ≤ 12; omega, by show (_ : Nat) ≤ 6 * 12; omega⟩ ?_
  rintro r mm' o' ⟨rfl, rfl, rfl⟩
  refine wpk hC ⟨by show (_ : Nat) ≤ 12; omega, by show (_ : Nat) ≤ 6 * 12; omega⟩ tkL_act [] 200 ?_
  refine Wx.sT (y := iL_low) (k := 0) (avs := [_, _]) (rest := [_, _, _]) hC hN hT hst tkL_act rfl rfl rfl kL_low ⟨by decide, by decide⟩ (M_low _ _ _ _ (by decide)) (fun _ _ _ h => h) rfl (Nat.le_of_ble_eq_true rfl) rfl rfl ⟨by show (_ : Nat) ≤ 12; omega, by show (_ : Nat) ≤ 6 * 12; omega⟩ ?_
  rintro r mm' o' ⟨rfl, rfl, rfl⟩
  refine wpk hC ⟨by show (_ : Nat) ≤ 12; omega, by show (_ : Nat) ≤ 6 * 12; omega⟩ tkL_act [] 200 ?_
  refine ⟨by decide, ?_⟩
  rw [ed]
  refine Wx.cW (y := iL_mounts) (k := 4) (avs := [_, _, _]) (rest := []) hC hN hT hR hst tkL_act rfl rfl rfl kL_mounts ⟨by decide, by decide⟩ (W_mounts a o (lowC y 4) (lowC (jshr y 2) 6) (lowC (jshr y 5) 6 / 5) w1 w2 (wr_of (by omega) (by omega))) rfl (Nat.le_of_ble_eq_true rfl) rfl ⟨by show (_ : Nat) ≤ 12; omega, by show (_ : Nat) ≤ 6 * 12; omega⟩ ?_
  rintro r a' o' ⟨rfl, rfl⟩
  refine Wx.widen (k := 12) (n := 6 * 12) (by omega) (by omega) ?_
  refine wpn hC ⟨by decide, by decide⟩ tkL_act hF [] 200 ?_
  generalize ck (ixC (lowC y 4) 3) _ = chk
  by_cases hc : chk = none
  · rw [cdN_n hc, pif_t hc]
    exact ⟨_, _, w, rfl, rfl, LV_keep hL (JV_mount hJ _ _ _) (fun j => uf_o _ _ _ _ _ _ _ (by decide) (by decide)), wr_rd _ _ _ _, fun _ _ _ _ => rfl, Or.inr (fun z z0 _ => GT_of (fun k i j h => uf_o _ _ _ _ _ _ _ (by omega) (by omega)) _ z z0)⟩
  · have := cdN_s (v := rd a 14 (lowC y 4) (lowC (jshr y 2) 6)) hc
    rw [pif_f hc]
    exact ⟨_, a, w, rfl, rfl, hL, wr_of (by omega) (by omega), fun _ _ _ _ => rfl, Or.inr (fun _ _ _ => rfl)⟩
set_option maxRecDepth 100000 in
set_option maxHeartbeats 3200000 in
theorem act_k6 {a w : Mm} {y : Int} {o : Int64} (hC : Cx V RL cL_act 6 p (mrmT iL_act 12) s m args meth c D ad A) (hN : wNest s) (hT : wThr A s) (hR : wNar s) (hst : l.stackTraces = false) (hL : LVR 3 a w) (hF : ∀ r mm o, actF a w 6 r mm o → rOK p l e (mrmT iL_act 12) s m args below meth c 12 (6 * 12) Q V D ad A cL_act 1 r mm o) : Wx p l e (mrmT iL_act 12) s m args below meth c 0 0 Q V D ad A 6 322 [(0, xr 1 0), (1, xr 40 0), (2, xi y), (3, xi 6)] [] (mix a w) o := by
  obtain ⟨hJ, ⟨n0, n1, n2⟩, ⟨p0, p1⟩, ⟨q0, q1⟩, r1⟩ := id hL
  have hI := hJ.1.1.1
  have r0 := hI.2.2.2.2.2.1
  have l1 := low_r (jshr y 3) (n := 24) (by decide) (by decide)
  have w1 := wr_low (jshr y 3) (n := 24) (by decide) (by decide)
  have l2 := low_r y (n := 3) (by decide) (by decide)
  have w2 := wr_low y (n := 3) (by decide) (by decide)
  have l3 := low_r (jshr y 2) (n := 30) (by decide) (by decide)
  have w3 := wr_low (jshr y 2) (n := 30) (by decide) (by decide)
  have l4 := low_r (jshr y 7) (n := 51) (by decide) (by decide)
  have w4 := wr_low (jshr y 7) (n := 51) (by decide) (by decide)
  have wn : wr (24 - lowC (jshr y 3) 24) = 24 - lowC (jshr y 3) 24 := wr_of (by omega) (by omega)
  have l5 := low_r (jshr y 5) (n := 24 - lowC (jshr y 3) 24) (by omega) (by omega)
  have wt : wr (lowC (jshr y 3) 24 + lowC (jshr y 5) (24 - lowC (jshr y 3) 24)) = lowC (jshr y 3) 24 + lowC (jshr y 5) (24 - lowC (jshr y 3) 24) := wr_of (by omega) (by omega)
  have fin : ∀ (v : Int) (o : Int64), wr v = v → 0 ≤ v → v ≤ 50 → Wx p l e (mrmT iL_act 12) s m args below meth c 0 0 Q V D ad A 6 386 [(0, xr 1 0), (1, xr 40 0), (2, xi y), (3, xi 6), (4, xi (lowC (jshr y 3) 24))] [xi v, xi (lowC (jshr y 3) 24 + lowC (jshr y 5) (24 - lowC (jshr y 3) 24)), xi (lowC (jshr y 3) 24), xi (lowC (jshr y 2) 30), xi (lowC y 3), xr 1 0] (mix a w) o := by
    intro v o hv v0 v1
    refine Wx.cT (y := iX10_weather) (k := 6) (avs := [_, _, _, _, _]) (rest := []) hC hN hT hst tkL_act rfl rfl kX10_weather ⟨by decide, by decide⟩ rfl (M_weather a o (lowC y 3) (lowC (jshr y 2) 30) (lowC (jshr y 3) 24) (lowC (jshr y 3) 24 + lowC (jshr y 5) (24 - lowC (jshr y 3) 24)) v w2 w3 w1 wt hv) (noT (ck_n (ck_n (ix_n l2.1 l2.2) (ck_n (ix_n l3.1 l3.2) (ck_n (ix_n l1.1 l1.2) (ix_n (by omega) (by omega))))) (ck_n (or_n (by omega)) (rg_n v0 v1)))) rfl (Nat.le_of_ble_eq_true rfl) rfl ⟨by show (_ : Nat) ≤ 12; omega, by show (_ : Nat) ≤ 6 * 12; omega⟩ ?_
    rintro r a' o' ⟨-, rfl, rfl, rfl⟩
    refine Wx.widen (k := 12) (n := 6 * 12) (by omega) (by omega) ?_
    refine wpn hC ⟨by decide, by decide⟩ tkL_act hF [] 200 ?_
    exact ⟨0, _, w, rfl, rfl, LV_keep hL (JV_weather hJ v0 v1) (fun j => fori_o (fun t m i j => rd_st_ne (by decide)) _ _ _ _ _), rfl, fun _ _ _ _ => rfl, Or.inl ⟨by decide, by decide⟩⟩
  refine wpk hC ⟨by show (_ : Nat) ≤ 12; omega, by show (_ : Nat) ≤ 6 * 12; omega⟩ tkL_act [] 200 ?_
  refine Wx.sT (y := iL_low) (k := 0) (avs := [_, _]) (rest := []) hC hN hT hst tkL_act rfl rfl rfl kL_low ⟨by decide, by decide⟩ (M_low _ _ _ _ (by decide)) (fun _ _ _ h => h) rfl (Nat.le_of_ble_eq_true rfl) rfl rfl ⟨by show (_ : Nat) ≤ 12; omega, by show (_ : Nat) ≤ 6 * 12; omega⟩ ?_
  rintro r mm' o' ⟨rfl, rfl, rfl⟩
  refine wpk hC ⟨by show (_ : Nat) ≤ 12; omega, by show (_ : Nat) ≤ 6 * 12; omega⟩ tkL_act [] 200 ?_
  refine Wx.sT (y := iL_low) (k := 0) (avs := [_, _]) (rest := [_]) hC hN hT hst tkL_act rfl rfl rfl kL_low ⟨by decide, by decide⟩ (M_low _ _ _ _ (by decide)) (fun _ _ _ h => h) rfl (Nat.le_of_ble_eq_true rfl) rfl rfl ⟨by show (_ : Nat) ≤ 12; omega, by show (_ : Nat) ≤ 6 * 12; omega⟩ ?_
  rintro r mm' o' ⟨rfl, rfl, rfl⟩
  refine wpk hC ⟨by show (_ : Nat) ≤ 12; omega, by show (_ : Nat) ≤ 6 * 12; omega⟩ tkL_act [] 200 ?_
  refine Wx.sT (y := iL_low) (k := 0) (avs := [_, _]) (rest := [_, _]) hC hN hT hst tkL_act rfl rfl rfl kL_low ⟨by decide, by decide⟩ (M_low _ _ _ _ (by decide)) (fun _ _ _ h => h) rfl (Nat.le_of_ble_eq_true rfl) rfl rfl ⟨by show (_ : Nat) ≤ 12; omega, by show (_ : Nat) ≤ 6 * 12; omega⟩ ?_
  rintro r mm' o' ⟨rfl, rfl, rfl⟩
  refine wpk hC ⟨by show (_ : Nat) ≤ 12; omega, by show (_ : Nat) ≤ 6 * 12; omega⟩ tkL_act [] 200 ?_
  refine Wx.sT (y := iL_low) (k := 0) (avs := [_, _]) (rest := [_, _, _, _, _]) hC hN hT hst tkL_act rfl rfl rfl kL_low ⟨by decide, by decide⟩ (M_low _ _ _ _ ((by rw [wn]; omega))) (fun _ _ _ h => h) rfl (Nat.le_of_ble_eq_true rfl) rfl rfl ⟨by show (_ : Nat) ≤ 12; omega, by show (_ : Nat) ≤ 6 * 12; omega⟩ ?_
  rintro r mm' o' ⟨rfl, rfl, rfl⟩
  refine wpk hC ⟨by show (_ : Nat) ≤ 12; omega, by show (_ : Nat) ≤ 6 * 12; omega⟩ tkL_act [] 200 ?_
  refine Wx.sT (y := iL_low) (k := 0) (avs := [_, _]) (rest := [_, _, _, _, _]) hC hN hT hst tkL_act rfl rfl rfl kL_low ⟨by decide, by decide⟩ (M_low _ _ _ _ (by decide)) (fun _ _ _ h => h) rfl (Nat.le_of_ble_eq_true rfl) rfl rfl ⟨by show (_ : Nat) ≤ 12; omega, by show (_ : Nat) ≤ 6 * 12; omega⟩ ?_
  rintro r mm' o' ⟨rfl, rfl, rfl⟩
  refine wpk hC ⟨by show (_ : Nat) ≤ 12; omega, by show (_ : Nat) ≤ 6 * 12; omega⟩ tkL_act [386] 200 ?_
  refine ⟨fun _ => ?_, fun _ => fin 0 o rfl (Int.le_refl _) (by decide)⟩
  refine Wx.sT (y := iL_low) (k := 0) (avs := [_, _]) (rest := [_, _, _, _, _]) hC hN hT hst tkL_act rfl rfl rfl kL_low ⟨by decide, by decide⟩ (M_low _ _ _ _ (by decide)) (fun _ _ _ h => h) rfl (Nat.le_of_ble_eq_true rfl) rfl rfl ⟨by show (_ : Nat) ≤ 12; omega, by show (_ : Nat) ≤ 6 * 12; omega⟩ ?_
  rintro r mm' o' ⟨rfl, rfl, rfl⟩
  exact fin _ _ w4 l4.1 (by omega)
set_option maxRecDepth 100000 in
set_option maxHeartbeats 3200000 in
theorem act_k7 {a w : Mm} {y : Int} {o : Int64} (hC : Cx V RL cL_act 6 p (mrmT iL_act 12) s m args meth c D ad A) (hN : wNest s) (hT : wThr A s) (hR : wNar s) (hst : l.stackTraces = false) (hL : LVR 3 a w) (hF : ∀ r mm o, actF a w 7 r mm o → rOK p l e (mrmT iL_act 12) s m args below meth c 12 (6 * 12) Q V D ad A cL_act 1 r mm o) : Wx p l e (mrmT iL_act 12) s m args below meth c 0 0 Q V D ad A 6 391 [(0, xr 1 0), (1, xr 40 0), (2, xi y), (3, xi 7)] [] (mix a w) o := by
  obtain ⟨hJ, ⟨n0, n1, n2⟩, ⟨p0, p1⟩, ⟨q0, q1⟩, r1⟩ := id hL
  have hI := hJ.1.1.1
  have r0 := hI.2.2.2.2.2.1
  have l1 := low_r (jshr y 3) (n := 24) (by decide) (by decide)
  have w1 := wr_low (jshr y 3) (n := 24) (by decide) (by decide)
  have l2 := low_r y (n := 3) (by decide) (by decide)
  have w2 := wr_low y (n := 3) (by decide) (by decide)
  have l3 := low_r (jshr y 2) (n := 30) (by decide) (by decide)
  have w3 := wr_low (jshr y 2) (n := 30) (by decide) (by decide)
  have l4 := low_r (jshr y 5) (n := 3) (by decide) (by decide)
  have w4 := wr_low (jshr y 5) (n := 3) (by decide) (by decide)
  have hm : 0 ≤ lowC (jshr y 5) 3 * (23 - lowC (jshr y 3) 24) ∧ lowC (jshr y 5) 3 * (23 - lowC (jshr y 3) 24) ≤ 2 * (23 - lowC (jshr y 3) 24) := ⟨Int.mul_nonneg l4.1 (by omega), Int.mul_le_mul_of_nonneg_right (by omega) (by omega)⟩
  refine wpk hC ⟨by show (_ : Nat) ≤ 12; omega, by show (_ : Nat) ≤ 6 * 12; omega⟩ tkL_act [] 200 ?_
  refine Wx.sT (y := iL_low) (k := 0) (avs := [_, _]) (rest := []) hC hN hT hst tkL_act rfl rfl rfl kL_low ⟨by decide, by decide⟩ (M_low _ _ _ _ (by decide)) (fun _ _ _ h => h) rfl (Nat.le_of_ble_eq_true rfl) rfl rfl ⟨by show (_ : Nat) ≤ 12; omega, by show (_ : Nat) ≤ 6 * 12; omega⟩ ?_
  rintro r mm' o' ⟨rfl, rfl, rfl⟩
  refine wpk hC ⟨by show (_ : Nat) ≤ 12; omega, by show (_ : Nat) ≤ 6 * 12; omega⟩ tkL_act [] 200 ?_
  refine Wx.sT (y := iL_low) (k := 0) (avs := [_, _]) (rest := [_]) hC hN hT hst tkL_act rfl rfl rfl kL_low ⟨by decide, by decide⟩ (M_low _ _ _ _ (by decide)) (fun _ _ _ h => h) rfl (Nat.le_of_ble_eq_true rfl) rfl rfl ⟨by show (_ : Nat) ≤ 12; omega, by show (_ : Nat) ≤ 6 * 12; omega⟩ ?_
  rintro r mm' o' ⟨rfl, rfl, rfl⟩
  refine wpk hC ⟨by show (_ : Nat) ≤ 12; omega, by show (_ : Nat) ≤ 6 * 12; omega⟩ tkL_act [] 200 ?_
  refine Wx.sT (y := iL_low) (k := 0) (avs := [_, _]) (rest := [_, _]) hC hN hT hst tkL_act rfl rfl rfl kL_low ⟨by decide, by decide⟩ (M_low _ _ _ _ (by decide)) (fun _ _ _ h => h) rfl (Nat.le_of_ble_eq_true rfl) rfl rfl ⟨by show (_ : Nat) ≤ 12; omega, by show (_ : Nat) ≤ 6 * 12; omega⟩ ?_
  rintro r mm' o' ⟨rfl, rfl, rfl⟩
  refine wpk hC ⟨by show (_ : Nat) ≤ 12; omega, by show (_ : Nat) ≤ 6 * 12; omega⟩ tkL_act [] 200 ?_
  refine Wx.sT (y := iL_low) (k := 0) (avs := [_, _]) (rest := [_, _, _, _, _]) hC hN hT hst tkL_act rfl rfl rfl kL_low ⟨by decide, by decide⟩ (M_low _ _ _ _ (by decide)) (fun _ _ _ h => h) rfl (Nat.le_of_ble_eq_true rfl) rfl rfl ⟨by show (_ : Nat) ≤ 12; omega, by show (_ : Nat) ≤ 6 * 12; omega⟩ ?_
  rintro r mm' o' ⟨rfl, rfl, rfl⟩
  refine wpk hC ⟨by show (_ : Nat) ≤ 12; omega, by show (_ : Nat) ≤ 6 * 12; omega⟩ tkL_act [] 200 ?_
  refine ⟨by decide, ?_⟩
  generalize hx : lowC (jshr y 5) 3 * (23 - lowC (jshr y 3) 24) = x at *
  have ed : jdiv x 9 = x / 9 := jdiv_of hm.1 (by omega) (by decide) (by decide)
  rw [ed]
  refine Wx.cT (y := iX10_fault) (k := 5) (avs := [_, _, _, _]) (rest := []) hC hN hT hst tkL_act rfl rfl kX10_fault ⟨by decide, by decide⟩ rfl (M_fault a o (lowC y 3) (lowC (jshr y 2) 30) (lowC (jshr y 3) 24) (lowC (jshr y 3) 24 + x / 9) w2 w3 w1 (wr_of (by omega) (by omega))) (noT (ck_n (ck_n (ix_n l2.1 l2.2) (ck_n (ix_n l3.1 l3.2) (ck_n (ix_n l1.1 l1.2) (ix_n (by omega) (by omega))))) (or_n (by omega)))) rfl (Nat.le_of_ble_eq_true rfl) rfl ⟨by show (_ : Nat) ≤ 12; omega, by show (_ : Nat) ≤ 6 * 12; omega⟩ ?_
  rintro r a' o' ⟨-, rfl, rfl, rfl⟩
  refine Wx.widen (k := 12) (n := 6 * 12) (by omega) (by omega) ?_
  refine wpn hC ⟨by decide, by decide⟩ tkL_act hF [] 200 ?_
  exact ⟨0, _, w, rfl, rfl, LV_keep hL (JV_fault hJ _ _ _ _) (fun j => fori_o (fun t m i j => rd_st_ne (by decide)) _ _ _ _ _), rfl, fun _ _ _ _ => rfl, Or.inl ⟨by decide, by decide⟩⟩
set_option maxRecDepth 100000 in
set_option maxHeartbeats 3200000 in
theorem act_k8 {a w : Mm} {y : Int} {o : Int64} (hC : Cx V RL cL_act 6 p (mrmT iL_act 12) s m args meth c D ad A) (hN : wNest s) (hT : wThr A s) (hR : wNar s) (hst : l.stackTraces = false) (hL : LVR 3 a w) (hF : ∀ r mm o, actF a w 8 r mm o → rOK p l e (mrmT iL_act 12) s m args below meth c 12 (6 * 12) Q V D ad A cL_act 1 r mm o) : Wx p l e (mrmT iL_act 12) s m args below meth c 0 0 Q V D ad A 6 441 [(0, xr 1 0), (1, xr 40 0), (2, xi y), (3, xi 8)] [] (mix a w) o := by
  obtain ⟨hJ, ⟨n0, n1, n2⟩, ⟨p0, p1⟩, ⟨q0, q1⟩, r1⟩ := id hL
  have hI := hJ.1.1.1
  have r0 := hI.2.2.2.2.2.1
  have l1 := low_r y (n := 3) (by decide) (by decide)
  have w1 := wr_low y (n := 3) (by decide) (by decide)
  have l2 := low_r (jshr y 2) (n := 2) (by decide) (by decide)
  have w2 := wr_low (jshr y 2) (n := 2) (by decide) (by decide)
  have l3 := low_r (jshr y 4) (n := 12) (by decide) (by decide)
  have w3 := wr_low (jshr y 4) (n := 12) (by decide) (by decide)
  refine wpk hC ⟨by show (_ : Nat) ≤ 12; omega, by show (_ : Nat) ≤ 6 * 12; omega⟩ tkL_act [] 200 ?_
  refine Wx.sT (y := iL_low) (k := 0) (avs := [_, _]) (rest := [_]) hC hN hT hst tkL_act rfl rfl rfl kL_low ⟨by decide, by decide⟩ (M_low _ _ _ _ (by decide)) (fun _ _ _ h => h) rfl (Nat.le_of_ble_eq_true rfl) rfl rfl ⟨by show (_ : Nat) ≤ 12; omega, by show (_ : Nat) ≤ 6 * 12; omega⟩ ?_
  rintro r mm' o' ⟨rfl, rfl, rfl⟩
  refine wpk hC ⟨by show (_ : Nat) ≤ 12; omega, by show (_ : Nat) ≤ 6 * 12; omega⟩ tkL_act [] 200 ?_
  refine Wx.sT (y := iL_low) (k := 0) (avs := [_, _]) (rest := [_, _]) hC hN hT hst tkL_act rfl rfl rfl kL_low ⟨by decide, by decide⟩ (M_low _ _ _ _ (by decide)) (fun _ _ _ h => h) rfl (Nat.le_of_ble_eq_true rfl) rfl rfl ⟨by show (_ : Nat) ≤ 12; omega, by show (_ : Nat) ≤ 6 * 12; omega⟩ ?_
  rintro r mm' o' ⟨rfl, rfl, rfl⟩
  refine wpk hC ⟨by show (_ : Nat) ≤ 12; omega, by show (_ : Nat) ≤ 6 * 12; omega⟩ tkL_act [] 200 ?_
  refine Wx.sT (y := iL_low) (k := 0) (avs := [_, _]) (rest := [_, _, _]) hC hN hT hst tkL_act rfl rfl rfl kL_low ⟨by decide, by decide⟩ (M_low _ _ _ _ (by decide)) (fun _ _ _ h => h) rfl (Nat.le_of_ble_eq_true rfl) rfl rfl ⟨by show (_ : Nat) ≤ 12; omega, by show (_ : Nat) ≤ 6 * 12; omega⟩ ?_
  rintro r mm' o' ⟨rfl, rfl, rfl⟩
  refine wpk hC ⟨by show (_ : Nat) ≤ 12; omega, by show (_ : Nat) ≤ 6 * 12; omega⟩ tkL_act [] 200 ?_
  refine Wx.cT (y := iX10_calibrate) (k := 3) (avs := [_, _, _]) (rest := []) hC hN hT hst tkL_act rfl rfl kX10_calibrate ⟨by decide, by decide⟩ rfl (M_calibrate a o (lowC y 3) (lowC (jshr y 2) 2) (lowC (jshr y 4) 12) w1 w2 w3) (noT (ck_n (ix_n l1.1 l1.2) (ck_n (ix_n l2.1 (by omega)) (ix_n l3.1 (by omega))))) rfl (Nat.le_of_ble_eq_true rfl) rfl ⟨by show (_ : Nat) ≤ 12; omega, by show (_ : Nat) ≤ 6 * 12; omega⟩ ?_
  rintro r a' o' ⟨-, rfl, rfl, rfl⟩
  refine Wx.widen (k := 12) (n := 6 * 12) (by omega) (by omega) ?_
  refine wpn hC ⟨by decide, by decide⟩ tkL_act hF [] 200 ?_
  have hJ' := JV_st hJ 16 (lowC y 3) (lowC (jshr y 2) 2 * 30 + lowC (jshr y 4) 12) (wr 1 % 2) (by decide)
  exact ⟨fun _ => ⟨0, _, w, rfl, rfl, LV_keep hL hJ' (fun j => rd_st_ne (by decide)), rfl, fun _ _ _ _ => rfl, Or.inl ⟨by decide, by decide⟩⟩, fun _ => ⟨1, _, w, rfl, rfl, LV_keep hL hJ' (fun j => rd_st_ne (by decide)), rfl, fun _ _ _ _ => rfl, Or.inl ⟨by decide, by decide⟩⟩⟩
set_option maxRecDepth 100000 in
set_option maxHeartbeats 3200000 in
theorem act_k9 {a w : Mm} {y : Int} {o : Int64} (hC : Cx V RL cL_act 6 p (mrmT iL_act 12) s m args meth c D ad A) (hN : wNest s) (hT : wThr A s) (hR : wNar s) (hst : l.stackTraces = false) (hL : LVR 3 a w) (hF : ∀ r mm o, actF a w 9 r mm o → rOK p l e (mrmT iL_act 12) s m args below meth c 12 (6 * 12) Q V D ad A cL_act 1 r mm o) : Wx p l e (mrmT iL_act 12) s m args below meth c 0 0 Q V D ad A 6 474 [(0, xr 1 0), (1, xr 40 0), (2, xi y), (3, xi 9)] [] (mix a w) o := by
  obtain ⟨hJ, ⟨n0, n1, n2⟩, ⟨p0, p1⟩, ⟨q0, q1⟩, r1⟩ := id hL
  have hI := hJ.1.1.1
  have r0 := hI.2.2.2.2.2.1
  have l1 := low_r y (n := 31) (by decide) (by decide)
  have w1 := wr_low y (n := 31) (by decide) (by decide)
  refine wpk hC ⟨by show (_ : Nat) ≤ 12; omega, by show (_ : Nat) ≤ 6 * 12; omega⟩ tkL_act [] 200 ?_
  refine Wx.sT (y := iL_low) (k := 0) (avs := [_, _]) (rest := [_]) hC hN hT hst tkL_act rfl rfl rfl kL_low ⟨by decide, by decide⟩ (M_low _ _ _ _ (by decide)) (fun _ _ _ h => h) rfl (Nat.le_of_ble_eq_true rfl) rfl rfl ⟨by show (_ : Nat) ≤ 12; omega, by show (_ : Nat) ≤ 6 * 12; omega⟩ ?_
  rintro r mm' o' ⟨rfl, rfl, rfl⟩
  refine wpk hC ⟨by show (_ : Nat) ≤ 12; omega, by show (_ : Nat) ≤ 6 * 12; omega⟩ tkL_act [] 200 ?_
  refine Wx.cW (y := iL_replays) (k := 2) (avs := [_]) (rest := []) hC hN hT hR hst tkL_act rfl rfl rfl kL_replays ⟨by decide, by decide⟩ (W_replays a o (lowC y 31) w1 hI (ID1_IC hJ.2.1)) rfl (Nat.le_of_ble_eq_true rfl) rfl ⟨by show (_ : Nat) ≤ 12; omega, by show (_ : Nat) ≤ 6 * 12; omega⟩ ?_
  rintro r a' o' ⟨rfl, rfl⟩
  refine Wx.widen (k := 12) (n := 6 * 12) (by omega) (by omega) ?_
  refine wpn hC ⟨by decide, by decide⟩ tkL_act hF [] 200 ?_
  by_cases hc : ck (ixC (lowC y 31) 30) (stC (bz (lowC y 31 * 24 < rd a 26 0 8))) = none
  · rw [cdN_n hc, pif_t hc]
    obtain ⟨c1, -⟩ := ck_of hc
    have b1 := ix_of c1
    obtain ⟨g1, g2⟩ := JV_rep hJ b1.1 b1.2
    exact ⟨_, _, w, rfl, rfl, LV_keep hL g1 (fun j => g2 _ _ _ (by unfold oth; omega)), wr_rd _ _ _ _, fun _ _ _ _ => rfl, Or.inr (fun z z0 _ => GT_of (fun k i j h => g2 _ _ _ (by unfold dep at h; unfold oth; omega)) _ z z0)⟩
  · have := cdN_s (v := rd (repM a (lowC y 31)) 26 1 9) hc
    rw [pif_f hc]
    exact ⟨_, a, w, rfl, rfl, hL, wr_of (by omega) (by omega), fun _ _ _ _ => rfl, Or.inr (fun _ _ _ => rfl)⟩
set_option maxRecDepth 100000 in
set_option maxHeartbeats 3200000 in
theorem act_k10 {a w : Mm} {y : Int} {o : Int64} (hC : Cx V RL cL_act 6 p (mrmT iL_act 12) s m args meth c D ad A) (hN : wNest s) (hT : wThr A s) (hR : wNar s) (hst : l.stackTraces = false) (hL : LVR 3 a w) (hF : ∀ r mm o, actF a w 10 r mm o → rOK p l e (mrmT iL_act 12) s m args below meth c 12 (6 * 12) Q V D ad A cL_act 1 r mm o) : Wx p l e (mrmT iL_act 12) s m args below meth c 0 0 Q V D ad A 6 485 [(0, xr 1 0), (1, xr 40 0), (2, xi y), (3, xi 10)] [] (mix a w) o := by
  obtain ⟨hJ, ⟨n0, n1, n2⟩, ⟨p0, p1⟩, ⟨q0, q1⟩, r1⟩ := id hL
  have hI := hJ.1.1.1
  have r0 := hI.2.2.2.2.2.1
  have l1 := low_r y (n := 4) (by decide) (by decide)
  have w1 := wr_low y (n := 4) (by decide) (by decide)
  have l2 := low_r (jshr y 3) (n := 101) (by decide) (by decide)
  have w2 := wr_low (jshr y 3) (n := 101) (by decide) (by decide)
  refine wpk hC ⟨by show (_ : Nat) ≤ 12; omega, by show (_ : Nat) ≤ 6 * 12; omega⟩ tkL_act [] 200 ?_
  refine Wx.sT (y := iL_low) (k := 0) (avs := [_, _]) (rest := [_]) hC hN hT hst tkL_act rfl rfl rfl kL_low ⟨by decide, by decide⟩ (M_low _ _ _ _ (by decide)) (fun _ _ _ h => h) rfl (Nat.le_of_ble_eq_true rfl) rfl rfl ⟨by show (_ : Nat) ≤ 12; omega, by show (_ : Nat) ≤ 6 * 12; omega⟩ ?_
  rintro r mm' o' ⟨rfl, rfl, rfl⟩
  refine wpk hC ⟨by show (_ : Nat) ≤ 12; omega, by show (_ : Nat) ≤ 6 * 12; omega⟩ tkL_act [] 200 ?_
  refine Wx.sT (y := iL_low) (k := 0) (avs := [_, _]) (rest := [_, _]) hC hN hT hst tkL_act rfl rfl rfl kL_low ⟨by decide, by decide⟩ (M_low _ _ _ _ (by decide)) (fun _ _ _ h => h) rfl (Nat.le_of_ble_eq_true rfl) rfl rfl ⟨by show (_ : Nat) ≤ 12; omega, by show (_ : Nat) ≤ 6 * 12; omega⟩ ?_
  rintro r mm' o' ⟨rfl, rfl, rfl⟩
  refine wpk hC ⟨by show (_ : Nat) ≤ 12; omega, by show (_ : Nat) ≤ 6 * 12; omega⟩ tkL_act [] 200 ?_
  refine Wx.cT (y := iX10_share) (k := 2) (avs := [_, _]) (rest := []) hC hN hT hst tkL_act rfl rfl kX10_share ⟨by decide, by decide⟩ rfl (M_share a o (lowC y 4) (lowC (jshr y 3) 101) w1 w2) (noT (ck_n (ix_n l1.1 l1.2) (rg_n l2.1 (by omega)))) rfl (Nat.le_of_ble_eq_true rfl) rfl ⟨by show (_ : Nat) ≤ 12; omega, by show (_ : Nat) ≤ 6 * 12; omega⟩ ?_
  rintro r a' o' ⟨-, rfl, rfl, rfl⟩
  refine Wx.widen (k := 12) (n := 6 * 12) (by omega) (by omega) ?_
  refine wpn hC ⟨by decide, by decide⟩ tkL_act hF [] 200 ?_
  exact ⟨_, _, w, rfl, rfl, LV_keep hL (JV_st hJ 7 0 (lowC y 4) (wr (lowC (jshr y 3) 101)) (by decide)) (fun j => rd_st_ne (by decide)), wr_rd _ _ _ _, fun _ _ _ _ => rfl, Or.inr (fun z z0 _ => GT_of (fun k i j h => rd_st_ne (by omega)) _ z z0)⟩
set_option maxRecDepth 100000 in
set_option maxHeartbeats 3200000 in
theorem act_k11 {a w : Mm} {y kd : Int} {o : Int64} (hC : Cx V RL cL_act 6 p (mrmT iL_act 12) s m args meth c D ad A) (hN : wNest s) (hT : wThr A s) (hR : wNar s) (hst : l.stackTraces = false) (hL : LVR 3 a w) (hkd : ¬ kd = 9) (hF : ∀ r mm o, actF a w kd r mm o → rOK p l e (mrmT iL_act 12) s m args below meth c 12 (6 * 12) Q V D ad A cL_act 1 r mm o) : Wx p l e (mrmT iL_act 12) s m args below meth c 0 0 Q V D ad A 6 503 [(0, xr 1 0), (1, xr 40 0), (2, xi y), (3, xi kd)] [] (mix a w) o := by
  obtain ⟨hJ, ⟨n0, n1, n2⟩, ⟨p0, p1⟩, ⟨q0, q1⟩, r1⟩ := id hL
  have hI := hJ.1.1.1
  have r0 := hI.2.2.2.2.2.1
  have l1 := low_r y (n := 30) (by decide) (by decide)
  have w1 := wr_low y (n := 30) (by decide) (by decide)
  refine wpk hC ⟨by show (_ : Nat) ≤ 12; omega, by show (_ : Nat) ≤ 6 * 12; omega⟩ tkL_act [] 200 ?_
  refine Wx.sT (y := iL_low) (k := 0) (avs := [_, _]) (rest := [_, _]) hC hN hT hst tkL_act rfl rfl rfl kL_low ⟨by decide, by decide⟩ (M_low _ _ _ _ (by decide)) (fun _ _ _ h => h) rfl (Nat.le_of_ble_eq_true rfl) rfl rfl ⟨by show (_ : Nat) ≤ 12; omega, by show (_ : Nat) ≤ 6 * 12; omega⟩ ?_
  rintro r mm' o' ⟨rfl, rfl, rfl⟩
  refine wpk hC ⟨by show (_ : Nat) ≤ 12; omega, by show (_ : Nat) ≤ 6 * 12; omega⟩ tkL_act [] 200 ?_
  refine Wx.cT (y := iX10_run) (k := 1) (avs := [_]) (rest := []) hC hN hT hst tkL_act rfl rfl kX10_run ⟨by decide, by decide⟩ rfl (M_run a o (1 + lowC y 30) (wr_of (by omega) (by omega)) hI hJ.1.1.2.1 hJ.2.2.1 hJ.2.2.2) (noT (rg_n (by omega) (by omega))) rfl (Nat.le_of_ble_eq_true rfl) rfl ⟨by show (_ : Nat) ≤ 12; omega, by show (_ : Nat) ≤ 6 * 12; omega⟩ ?_
  rintro r a' o' ⟨-, rfl, rfl, rfl⟩
  refine Wx.widen (k := 12) (n := 6 * 12) (by omega) (by omega) ?_
  refine wpn hC ⟨by decide, by decide⟩ tkL_act hF [] 200 ?_
  obtain ⟨g1, -, g3⟩ := JV_runM (1 + lowC y 30).toNat hJ
  have hr := runI_r (1 + lowC y 30).toNat 0 a
  exact ⟨_, _, w, rfl, rfl, LV_keep hL g1 (fun j => g3 _ _ _ (by decide) (by decide)), wr_of (by omega) (by omega), fun _ _ _ _ => rfl, Or.inl ⟨by omega, hkd⟩⟩
end CTX
