/-! ===== the checks of the class ===== -/
def tF (c : Option String) (F : FT) : FT := fun r m o => c = none ∧ F r m o
def tG (c : Option String) (mm : Mm) (o : Int64) : XT := fun E m' o' => c = some E ∧ mm = m' ∧ o = o'
def ixC (z n : Int) : Option String := if 0 ≤ z ∧ z < n then none else some xIx
def rgC (z a b : Int) : Option String := if a ≤ z ∧ z ≤ b then none else some xIa
def orC (a b : Int) : Option String := if a ≤ b then none else some xIa
def stC (z : Int) : Option String := if z = 0 then some xIs else none
set_option maxRecDepth 100000 in
set_option maxHeartbeats 400000 in
theorem M_needIndex (mm : Mm) (o : Int64) (z n : Int) (hz : wr z = z) (hn : wr n = n) : MetT iX10_needIndex 1 [xi z, xi n] mm o (tF (ixC z n) (rtv mm o)) (tG (ixC z n) mm o) := by
  refine MetT.of 0 (by decide +kernel) rfl (Nat.le_of_ble_eq_true rfl) ⟨by decide, by decide⟩ ?_
  intro p l e s m args below meth c V D ad hC hN hT hst hex hok hF
  have ht : ¬ (0 ≤ z ∧ z < n) → Wx p l e (mrmT iX10_needIndex 1) s m args below meth c 0 0 (TQ below V D ad (tF (ixC z n) (rtv mm o)) (tG (ixC z n) mm o) args s 1) V D ad (wA V ad s.heap.size) 2 9 (lent 0 [xi z, xi n]) [] mm o := fun h =>
    Wx.throw (n := 0) (r := 0) hC hT hst hex (by decide) (by decide +kernel) (by decide +kernel) (by decide +kernel) (by decide +kernel) (by decide +kernel) (by decide) (by decide) ⟨if_neg h, rfl, rfl⟩
  refine wpt0 hC tkX10_needIndex hF [9] 200 ?_
  rw [hz, hn]
  refine ⟨fun q => ht (fun h => by omega), fun q => ⟨fun q2 => ⟨if_pos ⟨by omega, by omega⟩, rfl, rfl, rfl⟩, fun q2 => ht (fun h => by omega)⟩⟩
