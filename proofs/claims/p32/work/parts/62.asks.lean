/-! ===== asks, III: the data; the rest ===== -/
section CTX
variable {p : Program} {l : Launch} {e : Env} {s : State} {m : MethodId} {args : Array Value} {below : List Frame} {meth : Method} {c : Code} {Q : State → Prop} {V : Nat → Int → Prop} {D : DD} {ad : Nat → Int → Nat} {A : Nat → Prop}
set_option maxRecDepth 100000 in
set_option maxHeartbeats 3200000 in
theorem asks_5 {a w : Mm} {y mn : Int} {o : Int64} (hC : Cx V RL cL_asks 11 p (mrmT iL_asks 9000) s m args meth c D ad A) (hN : wNest s) (hT : wThr A s) (hst : l.stackTraces = false) (hJ : JV a)
    (kk : Wx p l e (mrmT iL_asks 9000) s m args below meth c 8768 52608 Q V D ad A 11 385 [(0, xr 1 0), (1, xr 40 0), (2, xi y), (4, xi mn)] [] (mix a w) o) :
    ∀ (n i : Nat), ((i + n : Nat) : Int) = rd a 27 0 1 → Wx p l e (mrmT iL_asks 9000) s m args below meth c (7268 + 15 * i) (43608 + 90 * i) Q V D ad A 11 244 [(0, xr 1 0), (1, xr 40 0), (2, xi y), (4, xi mn), (5, xi i)] [] (mix a w) o := by
  have hI := hJ.1.1.1
  have hP := hJ.1.2.1
  obtain ⟨⟨d0, d1⟩, hd, -⟩ := hJ.1.2.2
  have h7 := hI.2.2.2.2.1
  have hR9 : ∀ b, 0 ≤ b → b < rd a 27 0 1 → ¬ rd a 28 0 (b * 7) = 2 → 0 ≤ rd a 28 0 (b * 7 + 1) ∧ rd a 28 0 (b * 7 + 1) < 24 := fun b b0 b1 hk => by
    obtain ⟨k1, k2, -⟩ := hd b b0 b1
    obtain ⟨n0, n1⟩ := k2 (k1.resolve_right hk)
    exact ⟨n0, by omega⟩
  intro n
  induction n with
  | zero =>
    intro i hi
    refine wpk hC ⟨by show (_ : Nat) ≤ 9000; omega, by show (_ : Nat) ≤ 6 * 9000; omega⟩ tkL_asks [] 200 ?_
    refine Wx.cX (y := iX10_data) (avs := []) (rest := [_]) hC hN tkL_asks rfl rfl kX10_data ⟨by decide, by decide⟩ rfl (M_data a o) rfl (Nat.le_of_ble_eq_true rfl) rfl ⟨by show (_ : Nat) ≤ 9000; omega, by show (_ : Nat) ≤ 6 * 9000; omega⟩ ?_
    rintro r a' o' ⟨rfl, rfl, rfl⟩
    refine wpk hC ⟨by show (_ : Nat) ≤ 9000; omega, by show (_ : Nat) ≤ 6 * 9000; omega⟩ tkL_asks [385] 200 ?_
    refine ⟨fun _ => Wx.widen (by omega) (by omega) (Wx.pick [0, 1, 2, 3] rfl kk), fun q => ?_⟩
    rw [wr_rd, wr_of (by omega) (by omega)] at q
    omega
  | succ n ih =>
    intro i hi
    have i0 : (0 : Int) ≤ (i : Int) := by omega
    have i1 : (i : Int) < rd a 27 0 1 := by omega
    have wi : wr (i : Int) = i := wr_of (by omega) (by omega)
    have hdi := hd i i0 i1
    obtain ⟨r1, r2⟩ := fun g => reads_ok (g := g) hI hP hdi |>.1, fun g => reads_ok (g := g) hI hP hdi |>.2
    obtain ⟨-, -, k3, k4, k5, k6⟩ := hdi
    have en : jdiv (rd a 28 0 ((i : Int) * 7 + 3)) 24 = rd a 28 0 ((i : Int) * 7 + 3) / 24 := jdiv24 k3.1 (by omega)
    refine wpk hC ⟨by show (_ : Nat) ≤ 9000; omega, by show (_ : Nat) ≤ 6 * 9000; omega⟩ tkL_asks [] 200 ?_
    refine Wx.cX (y := iX10_data) (avs := []) (rest := [_]) hC hN tkL_asks rfl rfl kX10_data ⟨by decide, by decide⟩ rfl (M_data a o) rfl (Nat.le_of_ble_eq_true rfl) rfl ⟨by show (_ : Nat) ≤ 9000; omega, by show (_ : Nat) ≤ 6 * 9000; omega⟩ ?_
    rintro r a' o' ⟨rfl, rfl, rfl⟩
    refine wpk hC ⟨by show (_ : Nat) ≤ 9000; omega, by show (_ : Nat) ≤ 6 * 9000; omega⟩ tkL_asks [385] 200 ?_
    refine ⟨fun q => ?_, fun _ => ?_⟩
    · rw [wr_rd, wi] at q
      omega
    refine Wx.cT (y := iX10_datum) (k := 2) (avs := [_, _]) (rest := []) hC hN hT hst tkL_asks rfl rfl kX10_datum ⟨by decide, by decide⟩ rfl (M_datum a o i 3 wi rfl d1) (noT (ck_n (ix_n i0 i1) rfl)) rfl (Nat.le_of_ble_eq_true rfl) rfl ⟨by show (_ : Nat) ≤ 9000; omega, by show (_ : Nat) ≤ 6 * 9000; omega⟩ ?_
    rintro r a' o' ⟨-, rfl, rfl, rfl⟩
    refine wpk hC ⟨by show (_ : Nat) ≤ 9000; omega, by show (_ : Nat) ≤ 6 * 9000; omega⟩ tkL_asks [] 200 ?_
    refine ⟨by decide, ?_⟩
    rw [en]
    refine Wx.cT (y := iX10_datum) (k := 2) (avs := [_, _]) (rest := [_]) hC hN hT hst tkL_asks rfl rfl kX10_datum ⟨by decide, by decide⟩ rfl (M_datum a o i 6 wi rfl d1) (noT (ck_n (ix_n i0 i1) rfl)) rfl (Nat.le_of_ble_eq_true rfl) rfl ⟨by show (_ : Nat) ≤ 9000; omega, by show (_ : Nat) ≤ 6 * 9000; omega⟩ ?_
    rintro r a' o' ⟨-, rfl, rfl, rfl⟩
    refine wpk hC ⟨by show (_ : Nat) ≤ 9000; omega, by show (_ : Nat) ≤ 6 * 9000; omega⟩ tkL_asks [] 200 ?_
    refine Wx.cT (y := iX10_datum) (k := 2) (avs := [_, _]) (rest := []) hC hN hT hst tkL_asks rfl rfl kX10_datum ⟨by decide, by decide⟩ rfl (M_datum a o i 4 wi rfl d1) (noT (ck_n (ix_n i0 i1) rfl)) rfl (Nat.le_of_ble_eq_true rfl) rfl ⟨by show (_ : Nat) ≤ 9000; omega, by show (_ : Nat) ≤ 6 * 9000; omega⟩ ?_
    rintro r a' o' ⟨-, rfl, rfl, rfl⟩
    refine wpk hC ⟨by show (_ : Nat) ≤ 9000; omega, by show (_ : Nat) ≤ 6 * 9000; omega⟩ tkL_asks [] 200 ?_
    refine ⟨by decide, ?_⟩
    refine Wx.sT (y := iL_low) (k := 0) (avs := [_, _]) (rest := []) hC hN hT hst tkL_asks rfl rfl rfl kL_low ⟨by decide, by decide⟩ (M_low _ _ _ _ (by decide)) (fun _ _ _ h => h) rfl (Nat.le_of_ble_eq_true rfl) rfl rfl ⟨by show (_ : Nat) ≤ 9000; omega, by show (_ : Nat) ≤ 6 * 9000; omega⟩ ?_
    rintro r mm' o' ⟨rfl, rfl, rfl⟩
    have hg := low_r (jshr y (jrem (i : Int) 20)) (n := 4) (by decide) (by decide)
    have wg := wr_low (jshr y (jrem (i : Int) 20)) (n := 4) (by decide) (by decide)
    generalize lowC (jshr y (jrem (i : Int) 20)) 4 = g at *
    have hN0 : 0 ≤ rd a 28 0 ((i : Int) * 7 + 3) / 24 ∧ rd a 28 0 ((i : Int) * 7 + 3) / 24 < 30 := by omega
    have r1 := r1 g
    have r2 := r2 g
    have q1 := rd_hi a 28 0 ((i : Int) * 7 + 4)
    generalize rd a 28 0 ((i : Int) * 7 + 3) / 24 = night at *
    generalize rd a 28 0 ((i : Int) * 7 + 6) = cal at *
    generalize rd a 28 0 ((i : Int) * 7 + 4) = qual at *
    have wn : wr night = night := wr_of (by omega) (by omega)
    have wq : wr qual = qual := wr_of (by omega) (by omega)
    have wa : wr (night - cal) = night - cal := wr_of (by omega) (by omega)
    have wb : wr (99 - 5 * (night - cal)) = 99 - 5 * (night - cal) := wr_of (by omega) (by omega)
    have next : Wx p l e (mrmT iL_asks 9000) s m args below meth c (7268 + 15 * i + 2 + 2 + 2 + 0 + 3 + 3 + 3) (43608 + 90 * i + 6 * 2 + 6 * 2 + 6 * 2 + 6 * 0 + 6 * 3 + 6 * 3 + 6 * 3) Q V D ad A 11 379 [(0, xr 1 0), (1, xr 40 0), (2, xi y), (4, xi mn), (5, xi i)] [] (mix a w) o := by
      refine wpk hC ⟨by show (_ : Nat) ≤ 9000; omega, by show (_ : Nat) ≤ 6 * 9000; omega⟩ tkL_asks [244] 200 ?_
      exact ih (i + 1) (by omega)
    have j359 : Wx p l e (mrmT iL_asks 9000) s m args below meth c (7268 + 15 * i + 2 + 2 + 2 + 0 + 3 + 3) (43608 + 90 * i + 6 * 2 + 6 * 2 + 6 * 2 + 6 * 0 + 6 * 3 + 6 * 3) Q V D ad A 11 359 [(0, xr 1 0), (1, xr 40 0), (2, xi y), (4, xi mn), (5, xi i), (6, xi night), (9, xi g), (10, xi (bz (crdP a g i 29)))] [] (mix a w) o := by
      refine wpk hC ⟨by show (_ : Nat) ≤ 9000; omega, by show (_ : Nat) ≤ 6 * 9000; omega⟩ tkL_asks [] 200 ?_
      refine Wx.cT (y := iX10_reads) (k := 3) (avs := [_, _, _]) (rest := []) hC hN hT hst tkL_asks rfl rfl kX10_reads ⟨by decide, by decide⟩ rfl (M_reads a o g i night wg wi wn hI d1 hR9) (noT (ck_n (ix_n hg.1 hg.2) (ck_n (ix_n i0 i1) (ix_n hN0.1 hN0.2)))) rfl (Nat.le_of_ble_eq_true rfl) rfl ⟨by show (_ : Nat) ≤ 9000; omega, by show (_ : Nat) ≤ 6 * 9000; omega⟩ ?_
      rintro r a' o' ⟨-, rfl, rfl, rfl⟩
      refine wpk hC ⟨by show (_ : Nat) ≤ 9000; omega, by show (_ : Nat) ≤ 6 * 9000; omega⟩ tkL_asks [379, 377] 200 ?_
      refine ⟨fun _ => Wx.pick [0, 1, 2, 3, 4] rfl next, fun z1 => ⟨fun _ => Wx.pick [0, 1, 2, 3, 4] rfl next, fun z2 => ?_⟩⟩
      rw [wr_bz] at z1 z2
      exact absurd (bz_t (r2 (Classical.not_not.mp fun z => z1 (bz_0.mpr z)))) (by rw [z2]; decide)
    have j339 : Wx p l e (mrmT iL_asks 9000) s m args below meth c (7268 + 15 * i + 2 + 2 + 2 + 0 + 3) (43608 + 90 * i + 6 * 2 + 6 * 2 + 6 * 2 + 6 * 0 + 6 * 3) Q V D ad A 11 339 [(0, xr 1 0), (1, xr 40 0), (2, xi y), (4, xi mn), (5, xi i), (6, xi night), (9, xi g), (10, xi (bz (crdP a g i 29)))] [] (mix a w) o := by
      refine wpk hC ⟨by show (_ : Nat) ≤ 9000; omega, by show (_ : Nat) ≤ 6 * 9000; omega⟩ tkL_asks [359] 200 ?_
      refine ⟨fun _ => Wx.widen (by omega) (by omega) j359, fun z1 => ?_⟩
      rw [wn] at z1
      have wm : wr (night - 1) = night - 1 := wr_of (by omega) (by omega)
      refine Wx.cT (y := iX10_reads) (k := 3) (avs := [_, _, _]) (rest := []) hC hN hT hst tkL_asks rfl rfl kX10_reads ⟨by decide, by decide⟩ rfl (M_reads a o g i (night - 1) wg wi wm hI d1 hR9) (noT (ck_n (ix_n hg.1 hg.2) (ck_n (ix_n i0 i1) (ix_n (by omega) (by omega))))) rfl (Nat.le_of_ble_eq_true rfl) rfl ⟨by show (_ : Nat) ≤ 9000; omega, by show (_ : Nat) ≤ 6 * 9000; omega⟩ ?_
      rintro r a' o' ⟨-, rfl, rfl, rfl⟩
      refine wpk hC ⟨by show (_ : Nat) ≤ 9000; omega, by show (_ : Nat) ≤ 6 * 9000; omega⟩ tkL_asks [359, 377] 200 ?_
      refine ⟨fun z2 => ?_, fun _ => j359⟩
      rw [wr_bz] at z2
      exact absurd (bz_f (r1 (by omega))) z2
    refine wpk hC ⟨by show (_ : Nat) ≤ 9000; omega, by show (_ : Nat) ≤ 6 * 9000; omega⟩ tkL_asks [] 200 ?_
    refine Wx.cT (y := iX10_reads) (k := 3) (avs := [_, _, _]) (rest := []) hC hN hT hst tkL_asks rfl rfl kX10_reads ⟨by decide, by decide⟩ rfl (M_reads a o g i 29 wg wi rfl hI d1 hR9) (noT (ck_n (ix_n hg.1 hg.2) (ck_n (ix_n i0 i1) rfl))) rfl (Nat.le_of_ble_eq_true rfl) rfl ⟨by show (_ : Nat) ≤ 9000; omega, by show (_ : Nat) ≤ 6 * 9000; omega⟩ ?_
    rintro r a' o' ⟨-, rfl, rfl, rfl⟩
    refine wpk hC ⟨by show (_ : Nat) ≤ 9000; omega, by show (_ : Nat) ≤ 6 * 9000; omega⟩ tkL_asks [339, 377] 200 ?_
    refine ⟨fun z => ?_, fun _ => ⟨fun z => ?_, fun _ => ⟨fun _ => Wx.pick [0, 1, 2, 3, 4, 5, 8, 9] rfl j339, fun z => ⟨fun z2 => ?_, fun _ => Wx.pick [0, 1, 2, 3, 4, 5, 8, 9] rfl j339⟩⟩⟩⟩
    · rw [wa] at z; omega
    · rw [wq] at z; omega
    · rw [wq, wb] at z
      rw [wq] at z2
      omega
end CTX
