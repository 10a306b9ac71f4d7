/-! ===== act (made in part by wip/p32/actgen.py) ===== -/
theorem cdN_n {c : Option String} {v : Int} (h : c = none) : cdN c v = v := by rw [h]; rfl
theorem cdN_s {c : Option String} {v : Int} (h : ¬ c = none) : -4 ≤ cdN c v ∧ cdN c v ≤ -2 := by
  cases c with
  | none => exact absurd rfl h
  | some E =>
    unfold cdN
    by_cases q : E = xIx
    · simp only [if_pos q]; decide
    · by_cases q2 : E = xIa
      · simp only [if_neg q, if_pos q2]; decide
      · simp only [if_neg q, if_neg q2]; decide
theorem st_bz {P : Prop} (h : stC (bz P) = none) : P := by
  by_cases q : P
  · exact q
  · rw [bz_f q] at h; cases h
/-- an object and the law's own numbers of it -/
def LVR (lo : Int) (a w : Mm) : Prop := JV a ∧ (rd w 40 0 0 = rd a 5 0 6 ∧ rd w 40 0 1 = rd a 5 0 7 ∧ rd w 40 0 2 = rd a 5 0 8) ∧ (lo ≤ rd a 5 0 6 ∧ rd a 5 0 6 ≤ 6) ∧ (lo ≤ rd a 5 0 7 ∧ rd a 5 0 7 ≤ 12) ∧ rd a 5 0 8 ≤ 8
def actF (a w : Mm) (kd : Int) : FT := fun r m' _ => ∃ v a' w', r = some (xi v) ∧ m' = mix a' w' ∧ LVR 3 a' w' ∧ wr v = v ∧ (∀ (k : Nat) i z, k ≠ 40 → w' k i z = w k i z) ∧ ((¬ (v < 0 ∧ -9 < v) ∧ ¬ kd = 9) ∨ ∀ z, 0 ≤ z → z < 40 → GT a' (rd w' 40 0 1) z = GT a (rd w 40 0 1) z)
theorem rd_w (w : Mm) (j e z : Int) (he : 0 ≤ rd w 40 0 j + e ∧ rd w 40 0 j + e ≤ 100) : rd (st w 40 0 j (wr (rd w 40 0 j + e))) 40 0 z = if z = j then rd w 40 0 j + e else rd w 40 0 z := by
  rw [rd_st, wr_wr, wr_of (by omega) (by omega)]
  by_cases q : z = j
  · rw [if_pos ⟨rfl, rfl, q⟩, if_pos q]
  · rw [if_neg (fun h => q h.2.2), if_neg q]
theorem w_ne (w : Mm) (j v : Int) (k : Nat) (i z : Int) (h : k ≠ 40) : st w 40 0 j v k i z = w k i z := by
  unfold st
  rw [if_neg (fun q => h q.1)]
theorem rd40 (a w : Mm) (z : Int) : rd (mix a w) 40 0 z = rd w 40 0 z := rfl
/-- nothing is told: the number grows by nothing -/
theorem LV_0 {lo : Int} {a w : Mm} (h : LVR lo a w) {j : Int} (hj : j = 0 ∨ j = 1 ∨ j = 2) : LVR lo a (st w 40 0 j (wr (rd w 40 0 j + 0))) ∧ ∀ z, rd (st w 40 0 j (wr (rd w 40 0 j + 0))) 40 0 z = rd w 40 0 z := by
  obtain ⟨hJ, ⟨n0, n1, n2⟩, q0, q1, q2⟩ := h
  have hI := hJ.1.1.1
  have p0 := hI.2.2.2.1
  have p1 := hI.2.2.2.2.1
  have p2 := hI.2.2.2.2.2
  have hz : ∀ z, rd (st w 40 0 j (wr (rd w 40 0 j + 0))) 40 0 z = rd w 40 0 z := fun z => by
    rw [rd_w _ _ _ _ (by rcases hj with rfl | rfl | rfl <;> omega)]
    by_cases e : z = j
    · rw [if_pos e, e]; omega
    · rw [if_neg e]
  exact ⟨⟨hJ, ⟨by rw [hz]; exact n0, by rw [hz]; exact n1, by rw [hz]; exact n2⟩, q0, q1, q2⟩, hz⟩
theorem runI_r : ∀ (n : Nat) (i : Int) (m : Mm), i ≤ runI n i m ∧ runI n i m ≤ i + n
  | 0, i, _ => ⟨Int.le_refl i, by show i ≤ _; omega⟩
  | n + 1, i, m => by
    show i ≤ pif (rd m 26 0 8 < 720) (runI n (i + 1) (runS m)) i ∧ pif (rd m 26 0 8 < 720) (runI n (i + 1) (runS m)) i ≤ _
    by_cases q : rd m 26 0 8 < 720
    · rw [pif_t q]
      have := runI_r n (i + 1) (runS m)
      omega
    · rw [pif_f q]; omega
/-- where the plan's numbers and the course stay, tell tells the same -/
theorem GT_of {a a' : Mm} (ro : ∀ (k : Nat) i j, k = 18 ∨ 20 ≤ k ∧ dep 0 k i → rd a' k i j = rd a k i j) (n z : Int) (z0 : 0 ≤ z) : GT a' n z = GT a n z := by
  unfold GT
  rw [tellV_of ro n z z0]
