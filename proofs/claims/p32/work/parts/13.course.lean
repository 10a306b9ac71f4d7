/-! ===== Course, the simpler methods ===== -/
def tOK (mm : Mm) (t : Int) : Prop := (0 ≤ rd mm 18 t 0 ∧ rd mm 18 t 0 < 4) ∧ (0 ≤ rd mm 18 t 3 ∧ rd mm 18 t 3 ≤ 6) ∧ (0 ≤ rd mm 18 t 4 ∧ rd mm 18 t 4 < 3) ∧ (0 ≤ rd mm 18 t 9 ∧ rd mm 18 t 9 < 24) ∧ (0 ≤ rd mm 18 t 10 ∧ rd mm 18 t 10 < 8)
def aOK (mm : Mm) (a : Int) : Prop := (0 ≤ rd mm 19 a 0 ∧ rd mm 19 a 0 < 4) ∧ (0 ≤ rd mm 19 a 3 ∧ rd mm 19 a 3 ≤ 6) ∧ (0 ≤ rd mm 19 a 4 ∧ rd mm 19 a 4 < 3)
/-- what was told is in range -/
def IA (mm : Mm) : Prop := (∀ t, 0 ≤ t → t < 24 → tOK mm t) ∧ (∀ a, 0 ≤ a → a < 10 → aOK mm a) ∧ (∀ q, 0 ≤ q → q < 8 → 0 ≤ rd mm 17 q 0 ∧ rd mm 17 q 0 < 4) ∧ (0 ≤ rd mm 5 0 6 ∧ rd mm 5 0 6 ≤ 8) ∧ (0 ≤ rd mm 5 0 7 ∧ rd mm 5 0 7 ≤ 24) ∧ (0 ≤ rd mm 5 0 8 ∧ rd mm 5 0 8 ≤ 10)
/-- a visit's numbers are in range -/
def vOK (mm : Mm) (v : Int) : Prop := (rd mm 31 v 0 = 1 → 0 ≤ rd mm 31 v 1 ∧ rd mm 31 v 1 < 24 ∧ 0 ≤ rd mm 31 v 2 ∧ rd mm 31 v 2 ≤ rd mm 18 (rd mm 31 v 1) 3) ∧ (¬ rd mm 31 v 0 = 0 → ¬ rd mm 31 v 0 = 1 → rd mm 31 v 0 = 2 ∧ 0 ≤ rd mm 31 v 1 ∧ rd mm 31 v 1 < 10)
set_option maxRecDepth 100000 in
set_option maxHeartbeats 400000 in
theorem M_aimOf1 (x v : Int) (mm : Mm) (o : Int64) (hk : rd mm 31 v 0 = 1) (h0 : 0 ≤ rd mm 31 v 1) (h1 : rd mm 31 v 1 < 24) : MetX iX4_aimOf [xr 26 x, xr 31 v] mm o (rto (xr 18 (rd mm 31 v 1)) mm o) := by
  refine MetX.of 3 (by decide +kernel) rfl (Nat.le_of_ble_eq_true rfl) ⟨by decide, by decide⟩ ?_
  intro p l e s m args below meth c Q V D ad A hC hN hok hF
  refine wpx hC tkX4_aimOf hF [] 200 ?_
  refine ⟨fun q => ?_, fun q => ?_⟩
  · rw [wr_rd] at q; exact absurd hk q
  · exact ⟨⟨h0, h1⟩, rfl, rfl, rfl⟩
set_option maxRecDepth 100000 in
set_option maxHeartbeats 400000 in
theorem M_aimOf2 (x v : Int) (mm : Mm) (o : Int64) (hk : ¬ rd mm 31 v 0 = 1) (h0 : 0 ≤ rd mm 31 v 1) (h1 : rd mm 31 v 1 < 10) : MetX iX4_aimOf [xr 26 x, xr 31 v] mm o (rto (xr 19 (rd mm 31 v 1)) mm o) := by
  refine MetX.of 3 (by decide +kernel) rfl (Nat.le_of_ble_eq_true rfl) ⟨by decide, by decide⟩ ?_
  intro p l e s m args below meth c Q V D ad A hC hN hok hF
  refine wpx hC tkX4_aimOf hF [] 200 ?_
  refine ⟨fun q => ?_, fun q => ?_⟩
  · exact ⟨⟨h0, h1⟩, rfl, rfl, rfl⟩
  · rw [wr_rd] at q; exact absurd q hk
noncomputable def grpC (mm : Mm) (v : Int) : Int := pif (rd mm 31 v 0 = 1) (rd mm 18 (rd mm 31 v 1) 0) (rd mm 19 (rd mm 31 v 1) 0)
noncomputable def loseC (mm : Mm) (x v : Int) : Mm := pif (rd mm 31 v 0 = 0) mm (beginC (st mm 32 x (grpC mm v) (wr (rd mm 32 x (grpC mm v) + rd mm 31 v 2))) v 0 (-1))
set_option maxRecDepth 100000 in
set_option maxHeartbeats 400000 in
theorem M_lose (x v : Int) (mm : Mm) (o : Int64) (hI : IA mm) (hv : vOK mm v) : MetX iX4_lose [xr 26 x, xr 31 v] mm o (rtv (loseC mm x v) o) := by
  refine MetX.of 0 (by decide +kernel) rfl (Nat.le_of_ble_eq_true rfl) ⟨by decide, by decide⟩ ?_
  intro p l e s m args below meth c Q V D ad A hC hN hok hF
  refine wpx hC tkX4_lose hF [] 200 ?_
  refine ⟨fun q => ?_, fun q => ?_⟩
  · rw [wr_rd] at q
    refine ⟨rfl, ?_, rfl⟩
    exact pif_t q
  rw [wr_rd] at q
  by_cases hk : rd mm 31 v 0 = 1
  · obtain ⟨n0, n1, -, -⟩ := hv.1 hk
    obtain ⟨g0, g1⟩ := (hI.1 _ n0 n1).1
    refine Wx.callV (x := iX4_lose) (y := iX4_aimOf) (k := 26) (avs := [_]) (rest := [_]) hC hN tkX4_lose rfl rfl kX4_aimOf rfl (M_aimOf1 _ _ _ _ hk n0 n1) ⟨rfl, rfl⟩ rfl (Nat.le_of_ble_eq_true rfl) (by exact nol rfl) ?_
    rintro r mm' o' ⟨rfl, rfl, rfl⟩
    refine wpx hC tkX4_lose hF [] 200 ?_
    refine ⟨⟨g0, g1⟩, ⟨g0, g1⟩, ?_⟩
    refine Wx.callV (x := iX4_lose) (y := iX9_clear) (k := 31) (avs := []) (rest := []) hC hN tkX4_lose rfl rfl kX9_clear rfl (M_vclear _ _ _) ⟨rfl, rfl⟩ rfl (Nat.le_of_ble_eq_true rfl) (by exact nol rfl) ?_
    rintro r mm' o' ⟨rfl, rfl, rfl⟩
    refine wpx hC tkX4_lose hF [] 200 ?_
    refine ⟨rfl, ?_, rfl⟩
    rw [show loseC mm x v = _ from pif_f q, show grpC mm v = _ from pif_t hk]
  · obtain ⟨-, n0, n1⟩ := hv.2 q hk
    obtain ⟨g0, g1⟩ := (hI.2.1 _ n0 n1).1
    refine Wx.callV (x := iX4_lose) (y := iX4_aimOf) (k := 26) (avs := [_]) (rest := [_]) hC hN tkX4_lose rfl rfl kX4_aimOf rfl (M_aimOf2 _ _ _ _ hk n0 n1) ⟨rfl, rfl⟩ rfl (Nat.le_of_ble_eq_true rfl) (by exact nol rfl) ?_
    rintro r mm' o' ⟨rfl, rfl, rfl⟩
    refine wpx hC tkX4_lose hF [] 200 ?_
    refine ⟨⟨g0, g1⟩, ⟨g0, g1⟩, ?_⟩
    refine Wx.callV (x := iX4_lose) (y := iX9_clear) (k := 31) (avs := []) (rest := []) hC hN tkX4_lose rfl rfl kX9_clear rfl (M_vclear _ _ _) ⟨rfl, rfl⟩ rfl (Nat.le_of_ble_eq_true rfl) (by exact nol rfl) ?_
    rintro r mm' o' ⟨rfl, rfl, rfl⟩
    refine wpx hC tkX4_lose hF [] 200 ?_
    refine ⟨rfl, ?_, rfl⟩
    rw [show loseC mm x v = _ from pif_f q, show grpC mm v = _ from pif_f hk]
noncomputable def breakC (mm : Mm) (x v : Int) : Mm := pif (rd mm 31 v 0 = 1) (st (takeC mm (27 * x + 3 + rd mm 31 v 1) v) 31 (27 * x + 3 + rd mm 31 v 1) 4 (wr (rd (takeC mm (27 * x + 3 + rd mm 31 v 1) v) 26 x 8))) (loseC mm x v)
set_option maxRecDepth 100000 in
set_option maxHeartbeats 400000 in
theorem M_breakOff (x v : Int) (mm : Mm) (o : Int64) (hI : IA mm) (hv : vOK mm v) : MetX iX4_breakOff [xr 26 x, xr 31 v] mm o (rtv (breakC mm x v) o) := by
  refine MetX.of 0 (by decide +kernel) rfl (Nat.le_of_ble_eq_true rfl) ⟨by decide, by decide⟩ ?_
  intro p l e s m args below meth c Q V D ad A hC hN hok hF
  refine wpx hC tkX4_breakOff hF [] 200 ?_
  refine ⟨fun q => ?_, fun q => ?_⟩
  · rw [wr_rd] at q
    refine Wx.callV (x := iX4_breakOff) (y := iX4_lose) (k := 26) (avs := [_]) (rest := []) hC hN tkX4_breakOff rfl rfl kX4_lose rfl (M_lose _ _ _ _ hI hv) ⟨rfl, rfl⟩ rfl (Nat.le_of_ble_eq_true rfl) (by exact nol rfl) ?_
    rintro r mm' o' ⟨rfl, rfl, rfl⟩
    refine wpx hC tkX4_breakOff hF [] 200 ?_
    exact ⟨rfl, pif_f q, rfl⟩
  · rw [wr_rd] at q
    obtain ⟨n0, n1, -, -⟩ := hv.1 q
    refine ⟨⟨n0, n1⟩, ?_⟩
    refine Wx.callV (x := iX4_breakOff) (y := iX9_takeOver) (k := 31) (avs := [_]) (rest := []) hC hN tkX4_breakOff rfl rfl kX9_takeOver rfl (M_takeOver _ _ _ _) ⟨rfl, rfl⟩ rfl (Nat.le_of_ble_eq_true rfl) (by exact nol rfl) ?_
    rintro r mm' o' ⟨rfl, rfl, rfl⟩
    refine wpx hC tkX4_breakOff hF [] 200 ?_
    exact ⟨rfl, pif_t q, rfl⟩
def obsC (mm : Mm) (x kd nm : Int) : Prop := (rd mm 31 (27 * x + 0) 0 = kd ∧ rd mm 31 (27 * x + 0) 1 = nm) ∨ (rd mm 31 (27 * x + 1) 0 = kd ∧ rd mm 31 (27 * x + 1) 1 = nm) ∨ (rd mm 31 (27 * x + 2) 0 = kd ∧ rd mm 31 (27 * x + 2) 1 = nm)
set_option maxRecDepth 100000 in
set_option maxHeartbeats 400000 in
theorem M_isObserved (x kd nm : Int) (mm : Mm) (o : Int64) (ek : wr kd = kd) (en : wr nm = nm) : MetX iX4_isObserved [xr 26 x, xi kd, xi nm] mm o (rto (xi (bz (obsC mm x kd nm))) mm o) := by
  refine MetX.of 2 (by decide +kernel) rfl (Nat.le_of_ble_eq_true rfl) ⟨by decide, by decide⟩ ?_
  intro p l e s m args below meth c Q V D ad A hC hN hok hF
  refine wpx hC tkX4_isObserved hF [2] 200 ?_
  have loop2 : ∀ u : Int, u = 3 → ¬ obsC mm x kd nm → Wx p l e (mrm iX4_isObserved) s m args below meth c 0 0 Q V D ad A 4 2 [(0, xr 26 x), (1, xi kd), (2, xi nm), (3, xi u)] [] mm o := by
    intro u hu hn
    subst hu
    refine wpx hC tkX4_isObserved hF [2] 200 ?_
    exact ⟨fun _ => ⟨Or.inl rfl, rb_f hn, rfl, rfl⟩, fun q => absurd (by decide) q⟩
  have step : ∀ u : Int, 0 ≤ u → u < 3 → ((rd mm 31 (27 * x + u) 0 = kd ∧ rd mm 31 (27 * x + u) 1 = nm) → obsC mm x kd nm) → (¬ (rd mm 31 (27 * x + u) 0 = kd ∧ rd mm 31 (27 * x + u) 1 = nm) → Wx p l e (mrm iX4_isObserved) s m args below meth c 0 0 Q V D ad A 4 2 [(0, xr 26 x), (1, xi kd), (2, xi nm), (3, xi (u + 1))] [] mm o) → Wx p l e (mrm iX4_isObserved) s m args below meth c 0 0 Q V D ad A 4 2 [(0, xr 26 x), (1, xi kd), (2, xi nm), (3, xi u)] [] mm o := by
    intro u u0 u1 hy hn
    refine wpx hC tkX4_isObserved hF [2] 200 ?_
    refine ⟨fun q => ?_, fun q => ⟨⟨u0, u1⟩, fun q2 => ?_, fun q2 => ⟨⟨u0, u1⟩, fun q3 => ?_, fun q3 => ?_⟩⟩⟩
    · rw [show wr 3 = 3 from rfl, wr_of (by omega) (by omega)] at q; omega
    · rw [wr_rd, ek] at q2; exact hn (fun h => q2 h.1)
    · rw [wr_rd, en] at q3; exact hn (fun h => q3 h.2)
    · rw [wr_rd, ek] at q2
      rw [wr_rd, en] at q3
      exact ⟨Or.inr rfl, rb_t (hy ⟨q2, q3⟩), rfl, rfl⟩
  refine step 0 (by decide) (by decide) (fun h => Or.inl h) (fun n0 => ?_)
  refine step (0 + 1) (by decide) (by decide) (fun h => Or.inr (Or.inl h)) (fun n1 => ?_)
  refine step (0 + 1 + 1) (by decide) (by decide) (fun h => Or.inr (Or.inr h)) (fun n2 => ?_)
  exact loop2 _ rfl (fun h => h.elim n0 (fun h => h.elim n1 n2))
def arC (mm : Mm) (x g : Int) : Int := rd mm 7 0 g * allC mm (30 + x) - 100 * rd mm 25 (30 + x) g
set_option maxRecDepth 100000 in
set_option maxHeartbeats 400000 in
theorem M_arrears (x g : Int) (mm : Mm) (o : Int64) (g0 : 0 ≤ g) (g1 : g < 4) : MetX iX4_arrears [xr 26 x, xi g] mm o (rto (xi (arC mm x g)) mm o) := by
  refine MetX.of 1 (by decide +kernel) rfl (Nat.le_of_ble_eq_true rfl) ⟨by decide, by decide⟩ ?_
  intro p l e s m args below meth c Q V D ad A hC hN hok hF
  refine wpx hC tkX4_arrears hF [] 200 ?_
  refine ⟨⟨g0, g1⟩, ?_⟩
  refine Wx.callV (x := iX4_arrears) (y := iX3_allCounted) (k := 20) (avs := []) (rest := [_]) hC hN tkX4_arrears rfl rfl kX3_allCounted rfl (M_allCounted _ _ _) ⟨rfl, rfl⟩ rfl (Nat.le_of_ble_eq_true rfl) (by exact nol rfl) ?_
  rintro r mm' o' ⟨rfl, rfl, rfl⟩
  refine wpx hC tkX4_arrears hF [] 200 ?_
  exact ⟨⟨g0, g1⟩, rfl, rfl, rfl⟩
def icmC (a b : Int) : Int := if wr a < wr b then -1 else if wr a = wr b then 0 else 1
theorem icmC_or (a b : Int) : icmC a b = -1 ∨ icmC a b = 0 ∨ icmC a b = 1 := by
  unfold icmC; split
  · exact Or.inl rfl
  · split
    · exact Or.inr (Or.inl rfl)
    · exact Or.inr (Or.inr rfl)
set_option maxRecDepth 100000 in
set_option maxHeartbeats 400000 in
theorem M_icompare (a b : Int) (mm : Mm) (o : Int64)  : MetX iJ6_compare_7cf53 [xi a, xi b] mm o (rto (xi (icmC a b)) mm o) := by
  refine MetX.of 1 (by decide +kernel) rfl (Nat.le_of_ble_eq_true rfl) ⟨by decide, by decide⟩ ?_
  intro p l e s m args below meth c Q V D ad A hC hN hok hF
  refine wpx hC tkJ6_compare_7cf53 hF [] 200 ?_
  refine ⟨fun q => ⟨fun q2 => ?_, fun q2 => ?_⟩, fun q => ?_⟩
  · exact ⟨by unfold icmC; rw [if_neg (by omega), if_neg q2], rfl, rfl⟩
  · exact ⟨by unfold icmC; rw [if_neg (by omega), if_pos q2], rfl, rfl⟩
  · exact ⟨by unfold icmC; rw [if_pos (by omega)], rfl, rfl⟩
noncomputable def cmpC (mm : Mm) (x y z : Int) : Int := pif (rd mm 17 y 0 = rd mm 17 z 0) (pif (rd mm 17 y 1 = rd mm 17 z 1) (z - y) (rd mm 17 y 1 - rd mm 17 z 1)) (pif (icmC (arC mm x (rd mm 17 y 0)) (arC mm x (rd mm 17 z 0)) = 0) (rd mm 17 z 0 - rd mm 17 y 0) (icmC (arC mm x (rd mm 17 y 0)) (arC mm x (rd mm 17 z 0))))
set_option maxRecDepth 100000 in
set_option maxHeartbeats 400000 in
theorem M_compare (x y z : Int) (mm : Mm) (o : Int64) (hI : IA mm) (y0 : 0 ≤ y) (y1 : y < 8) (z0 : 0 ≤ z) (z1 : z < 8) : MetX iX4_compare [xr 26 x, xi y, xi z] mm o (rto (xi (cmpC mm x y z)) mm o) := by
  refine MetX.of 1 (by decide +kernel) rfl (Nat.le_of_ble_eq_true rfl) ⟨by decide, by decide⟩ ?_
  intro p l e s m args below meth c Q V D ad A hC hN hok hF
  obtain ⟨gy0, gy1⟩ := hI.2.2.1 y y0 y1
  obtain ⟨gz0, gz1⟩ := hI.2.2.1 z z0 z1
  refine wpx hC tkX4_compare hF [] 200 ?_
  refine ⟨⟨y0, y1⟩, ⟨z0, z1⟩, fun q => ?_, fun q => ?_⟩
  · rw [wr_rd, wr_rd] at q
    refine ⟨fun q2 => ?_, fun q2 => ?_⟩
    · rw [wr_rd, wr_rd] at q2
      refine ⟨?_, rfl, rfl⟩
      rw [show cmpC mm x y z = _ from (pif_t q).trans (pif_t q2)]
    · rw [wr_rd, wr_rd] at q2
      refine ⟨?_, rfl, rfl⟩
      rw [show cmpC mm x y z = _ from (pif_t q).trans (pif_f q2)]
  · rw [wr_rd, wr_rd] at q
    refine Wx.callV (x := iX4_compare) (y := iX4_arrears) (k := 26) (avs := [_]) (rest := []) hC hN tkX4_compare rfl rfl kX4_arrears rfl (M_arrears _ _ _ _ gy0 gy1) ⟨rfl, rfl⟩ rfl (Nat.le_of_ble_eq_true rfl) (by exact nol rfl) ?_
    rintro r mm' o' ⟨rfl, rfl, rfl⟩
    refine wpx hC tkX4_compare hF [] 200 ?_
    refine Wx.callV (x := iX4_compare) (y := iX4_arrears) (k := 26) (avs := [_]) (rest := [_]) hC hN tkX4_compare rfl rfl kX4_arrears rfl (M_arrears _ _ _ _ gz0 gz1) ⟨rfl, rfl⟩ rfl (Nat.le_of_ble_eq_true rfl) (by exact nol rfl) ?_
    rintro r mm' o' ⟨rfl, rfl, rfl⟩
    refine wpx hC tkX4_compare hF [] 200 ?_
    refine Wx.callS (x := iX4_compare) (y := iJ6_compare_7cf53) (avs := [_, _]) (rest := []) hC hN tkX4_compare rfl rfl rfl kJ6_compare_7cf53 rfl (M_icompare _ _ _ _) rfl (Nat.le_of_ble_eq_true rfl) (by exact nol rfl) ?_
    rintro r mm' o' ⟨rfl, rfl, rfl⟩
    refine wpx hC tkX4_compare hF [] 200 ?_
    have h3 : wr (icmC (arC mm x (rd mm 17 y 0)) (arC mm x (rd mm 17 z 0))) = icmC (arC mm x (rd mm 17 y 0)) (arC mm x (rd mm 17 z 0)) := by
      rcases icmC_or (arC mm x (rd mm 17 y 0)) (arC mm x (rd mm 17 z 0)) with h | h | h <;> rw [h] <;> rfl
    refine ⟨fun q2 => ?_, fun q2 => ?_⟩
    · rw [h3] at q2
      refine ⟨?_, rfl, rfl⟩
      rw [show cmpC mm x y z = _ from (pif_f q).trans (pif_t q2)]
    · rw [h3] at q2
      refine ⟨?_, rfl, rfl⟩
      rw [show cmpC mm x y z = _ from (pif_f q).trans (pif_f q2)]
