/-! ===== the checks of the class ===== -/
def tF (c : Option String) (F : FT) : FT := fun r m o => c = none ∧ F r m o
def tG (c : Option String) (mm : Mm) (o : Int64) : XT := fun E m' o' => c = some E ∧ mm = m' ∧ o = o'
def ixC (z n : Int) : Option String := if 0 ≤ z ∧ z < n then none else some xIx
def rgC (z a b : Int) : Option String := if a ≤ z ∧ z ≤ b then none else some xIa
def orC (a b : Int) : Option String := if a ≤ b then none else some xIa
def stC (z : Int) : Option String := if z = 0 then some xIs else none
set_option maxRecDepth 100000 in
set_option maxHeartbeats 400000 in
theorem M_needIndex (mm : Mm) (o : Int64) (z n : Int) (hz : wr z = z) (hn : wr n = n) : MetT iX10_needIndex 1 [xi z, xi n] mm o (tF (ixC z n) (rtv mm o)) (tG (ixC z n) mm o) := by
  refine MetT.of 0 (by decide +kernel) rfl (Nat.le_of_ble_eq_true rfl) ⟨by decide, by decide⟩ ?_
  intro p l e s m args below meth c V D ad hC hN hT hst hex hok hF
  have ht : ¬ (0 ≤ z ∧ z < n) → Wx p l e (mrmT iX10_needIndex 1) s m args below meth c 0 0 (TQ below V D ad (tF (ixC z n) (rtv mm o)) (tG (ixC z n) mm o) args s 1) V D ad (wA V ad s.heap.size) 2 9 (lent 0 [xi z, xi n]) [] mm o := fun h =>
    Wx.throw (n := 0) (r := 0) hC hT hst hex (by decide) (by decide +kernel) (by decide +kernel) (by decide +kernel) (by decide +kernel) (by decide +kernel) (by decide) (by decide) ⟨if_neg h, rfl, rfl⟩
  refine wpt0 hC tkX10_needIndex hF [9] 200 ?_
  refine ⟨fun q => ht (fun h => by rw [hz] at q; omega), fun q => ⟨fun q2 => ⟨if_pos ⟨by rw [hz] at q; omega, by rw [hz, hn] at q2; omega⟩, rfl, rfl, rfl⟩, fun q2 => ht (fun h => by rw [hz, hn] at q2; omega)⟩⟩
set_option maxRecDepth 100000 in
set_option maxHeartbeats 400000 in
theorem M_needRange (mm : Mm) (o : Int64) (z a b : Int) (hz : wr z = z) (ha : wr a = a) (hb : wr b = b) : MetT iX10_needRange 1 [xi z, xi a, xi b] mm o (tF (rgC z a b) (rtv mm o)) (tG (rgC z a b) mm o) := by
  refine MetT.of 0 (by decide +kernel) rfl (Nat.le_of_ble_eq_true rfl) ⟨by decide, by decide⟩ ?_
  intro p l e s m args below meth c V D ad hC hN hT hst hex hok hF
  have ht : ¬ (a ≤ z ∧ z ≤ b) → Wx p l e (mrmT iX10_needRange 1) s m args below meth c 0 0 (TQ below V D ad (tF (rgC z a b) (rtv mm o)) (tG (rgC z a b) mm o) args s 1) V D ad (wA V ad s.heap.size) 3 10 (lent 0 [xi z, xi a, xi b]) [] mm o := fun h =>
    Wx.throw (n := 0) (r := 1) hC hT hst hex (by decide) (by decide +kernel) (by decide +kernel) (by decide +kernel) (by decide +kernel) (by decide +kernel) (by decide) (by decide) ⟨if_neg h, rfl, rfl⟩
  refine wpt0 hC tkX10_needRange hF [10] 200 ?_
  refine ⟨fun q => ht (fun h => by rw [hz, ha] at q; omega), fun q => ⟨fun q2 => ⟨if_pos ⟨by rw [hz, ha] at q; omega, by rw [hz, hb] at q2; omega⟩, rfl, rfl, rfl⟩, fun q2 => ht (fun h => by rw [hz, hb] at q2; omega)⟩⟩
set_option maxRecDepth 100000 in
set_option maxHeartbeats 400000 in
theorem M_needOrder (mm : Mm) (o : Int64) (a b : Int) (ha : wr a = a) (hb : wr b = b) : MetT iX10_needOrder 1 [xi a, xi b] mm o (tF (orC a b) (rtv mm o)) (tG (orC a b) mm o) := by
  refine MetT.of 0 (by decide +kernel) rfl (Nat.le_of_ble_eq_true rfl) ⟨by decide, by decide⟩ ?_
  intro p l e s m args below meth c V D ad hC hN hT hst hex hok hF
  have ht : ¬ (a ≤ b) → Wx p l e (mrmT iX10_needOrder 1) s m args below meth c 0 0 (TQ below V D ad (tF (orC a b) (rtv mm o)) (tG (orC a b) mm o) args s 1) V D ad (wA V ad s.heap.size) 2 5 (lent 0 [xi a, xi b]) [] mm o := fun h =>
    Wx.throw (n := 0) (r := 2) hC hT hst hex (by decide) (by decide +kernel) (by decide +kernel) (by decide +kernel) (by decide +kernel) (by decide +kernel) (by decide) (by decide) ⟨if_neg h, rfl, rfl⟩
  refine wpt0 hC tkX10_needOrder hF [5] 200 ?_
  refine ⟨fun q => ⟨if_pos (by rw [ha, hb] at q; omega), rfl, rfl, rfl⟩, fun q => ht (fun h => by rw [ha, hb] at q; omega)⟩
set_option maxRecDepth 100000 in
set_option maxHeartbeats 400000 in
theorem M_needState (mm : Mm) (o : Int64) (z : Int) (hz : wr z = z) : MetT iX10_needState 1 [xi z] mm o (tF (stC z) (rtv mm o)) (tG (stC z) mm o) := by
  refine MetT.of 0 (by decide +kernel) rfl (Nat.le_of_ble_eq_true rfl) ⟨by decide, by decide⟩ ?_
  intro p l e s m args below meth c V D ad hC hN hT hst hex hok hF
  have ht : z = 0 → Wx p l e (mrmT iX10_needState 1) s m args below meth c 0 0 (TQ below V D ad (tF (stC z) (rtv mm o)) (tG (stC z) mm o) args s 1) V D ad (wA V ad s.heap.size) 1 4 (lent 0 [xi z]) [] mm o := fun h =>
    Wx.throw (n := 0) (r := 3) hC hT hst hex (by decide) (by decide +kernel) (by decide +kernel) (by decide +kernel) (by decide +kernel) (by decide +kernel) (by decide) (by decide) ⟨if_pos h, rfl, rfl⟩
  refine wpt0 hC tkX10_needState hF [4] 200 ?_
  refine ⟨fun q => ⟨if_neg (by rw [hz] at q; omega), rfl, rfl, rfl⟩, fun q => ht (by rw [hz] at q; omega)⟩
/-- first check, then the others -/
def ck (a b : Option String) : Option String := match a with
  | some E => some E
  | none => b
theorem ck_l {a b : Option String} {E : String} (h : a = some E) : ck a b = some E := by rw [h]; rfl
theorem ck_r {a b c : Option String} (h : a = none) (h2 : b = c) : ck a b = c := by rw [h]; exact h2
set_option maxRecDepth 100000 in
set_option maxHeartbeats 400000 in
theorem M_needSky (mm : Mm) (o : Int64) (a b : Int) (ha : wr a = a) (hb : wr b = b) : MetT iX10_needSky 2 [xi a, xi b] mm o (tF (ck (rgC a 0 359) (rgC b (-90) 90)) (rtv mm o)) (tG (ck (rgC a 0 359) (rgC b (-90) 90)) mm o) := by
  refine MetT.of 0 (by decide +kernel) rfl (Nat.le_of_ble_eq_true rfl) ⟨by decide, by decide⟩ ?_
  intro p l e s m args below meth c V D ad hC hN hT hst hex hok hF
  refine wpt0 hC tkX10_needSky hF [] 200 ?_
  refine Wx.tcallS (x := iX10_needSky) (y := iX10_needRange) (j := 0) (k' := 1) (avs := [_, _, _]) (rest := []) hC hN hT hst hex tkX10_needSky rfl rfl rfl kX10_needRange rfl (M_needRange _ _ _ _ _ ha rfl rfl) rfl (Nat.le_of_ble_eq_true rfl) (by exact nol rfl) (by decide) ?_ ?_
  · rintro E mm' o' ⟨q, rfl, rfl⟩
    exact ⟨ck_l q, rfl, rfl⟩
  rintro r mm' o' ⟨h1, rfl, rfl, rfl⟩
  refine wpt (n := 1) hC tkX10_needSky hF (by decide) [] 200 ?_
  refine Wx.tcallS (x := iX10_needSky) (y := iX10_needRange) (j := 1) (k' := 1) (avs := [_, _, _]) (rest := []) hC hN hT hst hex tkX10_needSky rfl rfl rfl kX10_needRange rfl (M_needRange _ _ _ _ _ hb rfl rfl) rfl (Nat.le_of_ble_eq_true rfl) (by exact nol rfl) (by decide) ?_ ?_
  · rintro E mm' o' ⟨q, rfl, rfl⟩
    exact ⟨ck_r h1 q, rfl, rfl⟩
  rintro r mm' o' ⟨h2, rfl, rfl, rfl⟩
  refine wpt (n := 2) hC tkX10_needSky hF (by decide) [] 200 ?_
  exact ⟨ck_r h1 h2, rfl, rfl, rfl⟩
