/-! ===== the cells of the law ===== -/
def lawV (k : Nat) (i : Int) : Prop := (k = 0 ∧ i = 0) ∨ (0 ≤ i ∧ i < km k)
theorem lawV_r {k : Nat} {i : Int} (h : lawV k i) (hk : kt k ≠ 0) : 0 ≤ i ∧ i < km k := by
  rcases h with ⟨rfl, -⟩ | h
  · exact absurd rfl hk
  · exact h
def rmR (R : Room) (y : MI) : Bool := Nat.ble (y.2.2.2.2.2.1 + 1) R.frames && Nat.ble (8 + (y.2.2.1 + 11) + y.2.2.2.2.2.2) R.locals
