/-! ===== the model, XI: resumed visits, rows ===== -/
noncomputable def rsmQ (mm : Mm) (s n u r t : Int) : Prop := 0 < rd mm 83 0 t ∧ msuP mm t s n u (rd mm 57 0 t - rd mm 83 0 t) ∧ (r < 0 ∨ rd mm 85 0 t < rd mm 85 0 r)
noncomputable def rsmB (mm : Mm) (s n u : Int) : Nat → Int → Int → Int
  | 0, _, r => r
  | k + 1, t, r => rsmB mm s n u k (t + 1) (pif (rsmQ mm s n u r t) t r)
noncomputable def rsmR (mm : Mm) (s n u : Int) : Int := rsmB mm s n u (rd mm 40 0 25).toNat 0 (-1)
theorem rsmB_r (mm : Mm) (s n u : Int) : ∀ (k : Nat) (t r : Int), 0 ≤ t → -1 ≤ r → r < t + k → -1 ≤ rsmB mm s n u k t r ∧ rsmB mm s n u k t r < t + k
  | 0, t, r, _, h1, h2 => ⟨h1, h2⟩
  | k + 1, t, r, h0, h1, h2 => by
    unfold rsmB
    have h := rsmB_r mm s n u k (t + 1) (pif (rsmQ mm s n u r t) t r) (by omega) (by
      by_cases q : rsmQ mm s n u r t
      · rw [pif_t q]; omega
      · rw [pif_f q]; omega) (by
      by_cases q : rsmQ mm s n u r t
      · rw [pif_t q]; omega
      · rw [pif_f q]; omega)
    omega
def rs3 (m : Mm) (s r : Int) : Mm := st m 81 0 s (wr (rd m 83 0 r))
def rs4 (m : Mm) (s r : Int) : Mm := st m 82 0 s (wr (rd m 84 0 r))
noncomputable def rsmC (mm : Mm) (s n u : Int) : Mm := pif (0 ≤ rsmR mm s n u) (st (rs4 (rs3 (mbgC mm s (rsmR mm s n u)) s (rsmR mm s n u)) s (rsmR mm s n u)) 83 0 (rsmR mm s n u) (wr 0)) mm
set_option maxRecDepth 100000 in
set_option maxHeartbeats 400000 in
theorem M_mresume (s9 n u : Int) (mm : Mm) (o : Int64) (hI : IM mm) (s0 : 0 ≤ s9) (s1 : s9 < 3) (n0 : 0 ≤ n) (n1 : n < 30) (u0 : 0 ≤ u) (u1 : u < 24) : MetX iX11_resume [xr 40 0, xi s9, xi n, xi u] mm o (rtv (rsmC mm s9 n u) o) := by
  refine MetX.of 0 (by decide +kernel) rfl (Nat.le_of_ble_eq_true rfl) ⟨by decide, by decide⟩ ?_
  intro p l e s m args below meth c Q V D ad A hC hN hok hF
  have s2 : 0 ≤ s9 ∧ s9 < 3 := ⟨s0, s1⟩
  have ht0 := hI.2.1.1
  have ht1 := hI.2.1.2
  have hr : -1 ≤ rsmR mm s9 n u ∧ rsmR mm s9 n u < 24 := by
    have h := rsmB_r mm s9 n u (rd mm 40 0 25).toNat 0 (-1) (by decide) (by decide) (by omega)
    change -1 ≤ rsmR mm s9 n u ∧ rsmR mm s9 n u < _ at h
    omega
  have fin : Wx p l e (mrm iX11_resume) s m args below meth c 0 0 Q V D ad A 7 101 [(0, xr 40 0), (1, xi s9), (2, xi n), (3, xi u), (4, xi (rsmR mm s9 n u))] [] mm o := by
    refine wpx hC tkX11_resume hF [] 200 ?_
    refine ⟨fun q => ⟨rfl, pif_f (by rw [wr_of (by omega) (by omega)] at q; omega), rfl⟩, fun q => ?_⟩
    rw [wr_of (by omega) (by omega)] at q
    have r2 : 0 ≤ rsmR mm s9 n u ∧ rsmR mm s9 n u < 24 := by omega
    refine Wx.callV (x := iX11_resume) (y := iX11_begin) (k := 40) (avs := [_, _]) (rest := []) hC hN tkX11_resume rfl rfl kX11_begin rfl (M_begin _ _ _ _ s0 s1) ⟨rfl, rfl⟩ rfl (Nat.le_of_ble_eq_true rfl) (by exact nol rfl) ?_
    rintro r mm' o' ⟨rfl, rfl, rfl⟩
    refine wpx hC tkX11_resume hF [] 200 ?_
    exact ⟨r2, s2, r2, s2, r2, rfl, pif_t r2.1, rfl⟩
  have loop : ∀ (k : Nat) (t r : Int), 0 ≤ t → t + k = rd mm 40 0 25 → -1 ≤ r → r < 24 → rsmB mm s9 n u k t r = rsmR mm s9 n u → Wx p l e (mrm iX11_resume) s m args below meth c 0 0 Q V D ad A 7 6 [(0, xr 40 0), (1, xi s9), (2, xi n), (3, xi u), (4, xi r), (5, xi t)] [] mm o := by
    intro k
    induction k with
    | zero =>
      intro t r t0 ht r0 r1 he
      have he' : r = rsmR mm s9 n u := he
      refine wpx hC tkX11_resume hF [6, 101] 200 ?_
      refine ⟨fun _ => ?_, fun q => ?_⟩
      · rw [he']; exact Wx.pick [0, 1, 2, 3, 4] rfl fin
      · rw [wr_rd, wr_of (by omega) (by omega)] at q; omega
    | succ k ih =>
      intro t r t0 ht r0 r1 he
      have next : ∀ x6, ((¬ x6 = 0) → rsmQ mm s9 n u r t) → (x6 = 0 → ¬ rsmQ mm s9 n u r t) → wr x6 = x6 → Wx p l e (mrm iX11_resume) s m args below meth c 0 0 Q V D ad A 7 79 [(0, xr 40 0), (1, xi s9), (2, xi n), (3, xi u), (4, xi r), (5, xi t)] [xi x6] mm o := by
        intro x6 h1 h0 hx
        refine wpx hC tkX11_resume hF [6] 200 ?_
        refine ⟨fun q => ?_, fun q => ?_⟩
        · rw [hx] at q
          exact Wx.pick [0, 1, 2, 3, 4, 5] rfl (ih (t + 1) r (by omega) (by omega) r0 r1 (by rw [← he]; exact congrArg (rsmB mm s9 n u k (t + 1)) (pif_f (h0 q)).symm))
        · rw [hx] at q
          exact Wx.pick [0, 1, 2, 3, 4, 5] rfl (ih (t + 1) t (by omega) (by omega) (by omega) (by omega) (by rw [← he]; exact congrArg (rsmB mm s9 n u k (t + 1)) (pif_t (h1 q)).symm))
      have t2 : 0 ≤ t ∧ t < 24 := by omega
      have t3 : 0 ≤ t ∧ t < 34 := by omega
      obtain ⟨-, ⟨l0, l1⟩, ⟨i0, i1⟩⟩ := hI.2.2.2.1 _ t3.1 t3.2
      have w1 := rd_hi mm 83 0 t
      refine wpx hC tkX11_resume hF [6, 101, 79] 200 ?_
      refine ⟨fun q => ?_, fun _ => ⟨t2, fun q => next 0 (fun h => absurd rfl h) (fun _ h => ?_) rfl, fun q1 => ⟨t3, t2, ?_⟩⟩⟩
      · rw [wr_rd, wr_of (by omega) (by omega)] at q; omega
      · rw [wr_rd] at q; have := h.1; omega
      rw [wr_rd] at q1
      refine Wx.callV (x := iX11_resume) (y := iX11_suits) (k := 40) (avs := [_, _, _, _, _]) (rest := []) hC hN tkX11_resume rfl rfl kX11_suits rfl (M_msuits _ _ _ _ _ _ _ t3.1 t3.2 s0 s1 n0 n1 u0 u1 (by omega) (by omega) i0 i1) ⟨rfl, rfl⟩ rfl (Nat.le_of_ble_eq_true rfl) (by exact nol rfl) ?_
      rintro r mm' o' ⟨rfl, rfl, rfl⟩
      refine wpx hC tkX11_resume hF [6, 79] 200 ?_
      refine ⟨fun q => next 0 (fun h => absurd rfl h) (fun _ h => nb q h.2.1) rfl, fun q2 => ⟨fun q => next 1 (fun _ => ⟨by omega, yb q2, Or.inl ?_⟩) (fun h => absurd h (by decide)) rfl, fun q => ⟨t2, ⟨?_, r1⟩, fun q3 => next 0 (fun h => absurd rfl h) (fun _ h => ?_) rfl, fun q3 => next 1 (fun _ => ⟨by omega, yb q2, Or.inr ?_⟩) (fun h => absurd h (by decide)) rfl⟩⟩⟩
      · rw [wr_of (by omega) (by omega)] at q; exact q
      · rw [wr_of (by omega) (by omega)] at q; omega
      · rw [wr_of (by omega) (by omega)] at q; rw [wr_rd, wr_rd] at q3; have := h.2.2; omega
      · rw [wr_rd, wr_rd] at q3; omega
  refine wpx hC tkX11_resume hF [6] 200 ?_
  exact loop (rd mm 40 0 25).toNat 0 (-1) (by decide) (by omega) (by decide) (by decide) rfl
noncomputable def rowP (mm : Mm) (t s n v : Int) : Prop := mhiA mm t s n v (rd mm 57 0 t)
noncomputable def rowC (mm : Mm) (t s n u : Int) : Int := runT (fun c => rowP mm t s n (u + c)) (24 - u).toNat 0
set_option maxRecDepth 100000 in
set_option maxHeartbeats 400000 in
theorem M_row (t s9 n u : Int) (mm : Mm) (o : Int64) (hI : IM mm) (t0 : 0 ≤ t) (t1 : t < 34) (s0 : 0 ≤ s9) (s1 : s9 < 3) (u0 : 0 ≤ u) (u1 : u < 24) : MetX iX11_row [xr 40 0, xi t, xi s9, xi n, xi u] mm o (rto (xi (rowC mm t s9 n u)) mm o) := by
  refine MetX.of 1 (by decide +kernel) rfl (Nat.le_of_ble_eq_true rfl) ⟨by decide, by decide⟩ ?_
  intro p l e s m args below meth c Q V D ad A hC hN hok hF
  obtain ⟨-, ⟨l0, l1⟩, -⟩ := hI.2.2.2.1 _ t0 t1
  have loop : ∀ (k : Nat) (v : Int), 0 ≤ v → u + v + k = 24 → runT (fun c => rowP mm t s9 n (u + c)) k v = rowC mm t s9 n u → Wx p l e (mrm iX11_row) s m args below meth c 0 0 Q V D ad A 6 3 [(0, xr 40 0), (1, xi t), (2, xi s9), (3, xi n), (4, xi u), (5, xi v)] [] mm o := by
    intro k
    induction k with
    | zero =>
      intro v v0 hv he
      refine wpx hC tkX11_row hF [3] 200 ?_
      refine ⟨fun _ => ⟨congrArg (fun z => some (xi z)) he, rfl, rfl⟩, fun q => ?_⟩
      rw [show wr 24 = 24 from rfl, wr_of (by omega) (by omega)] at q; omega
    | succ k ih =>
      intro v v0 hv he
      refine wpx hC tkX11_row hF [3] 200 ?_
      refine ⟨fun q => ?_, fun _ => ⟨⟨t0, t1⟩, ?_⟩⟩
      · rw [show wr 24 = 24 from rfl, wr_of (by omega) (by omega)] at q; omega
      refine Wx.callV (x := iX11_row) (y := iX11_isHigh) (k := 40) (avs := [_, _, _, _, _]) (rest := []) hC hN tkX11_row rfl rfl kX11_isHigh rfl (M_isHigh _ _ _ _ _ _ _ t0 t1 s0 s1 (by omega) (by omega) (by omega) (by omega)) ⟨rfl, rfl⟩ rfl (Nat.le_of_ble_eq_true rfl) (by exact nol rfl) ?_
      rintro r mm' o' ⟨rfl, rfl, rfl⟩
      refine wpx hC tkX11_row hF [3] 200 ?_
      refine ⟨fun q => ⟨congrArg (fun z => some (xi z)) (by rw [← he]; exact (pif_f (nb q)).symm), rfl, rfl⟩, fun q => ih (v + 1) (by omega) (by omega) (by rw [← he]; exact (pif_t (yb q)).symm)⟩
  refine wpx hC tkX11_row hF [3] 200 ?_
  exact loop (24 - u).toNat 0 (by decide) (by omega) rfl
