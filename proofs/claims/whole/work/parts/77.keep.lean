/-! ===== class and model side by side, XVI: what keep keeps ===== -/
theorem kS_t (k9 : Nat) (z t : Int) (m : Mm) (k : Nat) (i j : Int) : rd (kS true k9 z t m) k i j = rd m k i j := by
  unfold kS
  rw [rd_st]
  by_cases h : k = 90 ∧ i = 0 ∧ j = z
  · obtain ⟨rfl, rfl, rfl⟩ := h
    rw [if_pos ⟨rfl, rfl, rfl⟩, wr_wr]
    exact wr_rd _ _ _ _
  · rw [if_neg h]
theorem kS_f (k9 : Nat) (z t : Int) (m : Mm) (k : Nat) (i j : Int) : rd (kS false k9 z t m) k i j = if k = 90 ∧ i = 0 ∧ j = z then rd m k9 0 t else rd m k i j := by
  unfold kS
  rw [rd_st, wr_wr]
  by_cases h : k = 90 ∧ i = 0 ∧ j = z
  · rw [if_pos h, if_pos h]; exact wr_rd _ _ _ _
  · rw [if_neg h, if_neg h]
theorem kL_r (k9 : Nat) (z t : Int) (m : Mm) (k : Nat) (i j : Int) : rd (kL k9 z t m) k i j = if k = k9 ∧ i = 0 ∧ j = t then rd m 90 0 z else rd m k i j := by
  unfold kL
  rw [rd_st, wr_wr, wr_rd]
theorem fori_at2 {F : Int → Mm → Mm} {inv : Mm → Prop} {k : Nat} {i : Int} {ix V : Int → Int} (lo hi : Int) (hinv : ∀ t m, lo ≤ t → t < hi → inv m → inv (F t m)) (hw : ∀ t m, lo ≤ t → t < hi → inv m → rd (F t m) k i (ix t) = V t) (ho : ∀ t t' m, lo ≤ t → t < hi → lo ≤ t' → t' < hi → t ≠ t' → rd (F t m) k i (ix t') = rd m k i (ix t')) : ∀ (n : Nat) (c : Int) (m : Mm), lo ≤ c → c + n ≤ hi → inv m → ∀ t, c ≤ t → t < c + n → rd (fori F n c m) k i (ix t) = V t
  | 0, c, m, _, _, _, t, t0, t1 => by omega
  | n + 1, c, m, h0, h1, hm, t, t0, t1 => by
    show rd (fori F n (c + 1) (F c m)) k i (ix t) = V t
    by_cases e : t = c
    · subst e
      rw [fori_out lo hi n (t + 1) (F t m) (by omega) (by omega) (fun t' m' a0 a1 a2 a3 => ho t' t m' a0 a1 h0 (by omega) (by omega))]
      exact hw t m h0 (by omega) hm
    · exact fori_at2 lo hi hinv hw ho n (c + 1) (F c m) (by omega) (by omega) (hinv c m h0 (by omega) hm) t (by omega) (by omega)
/-- the four walks of keep -/
def kT (z : Bool) (t : Int) (m : Mm) : Mm := kq2 t (kq1 z t m)
def kV (z : Bool) (t : Int) (m : Mm) : Mm := kq4 t (kq3 z t m)
theorem kT_f (t : Int) (m : Mm) (k : Nat) (i j : Int) (h : k ≠ 90) : rd (kT false t m) k i j = rd m k i j := by
  unfold kT kq2 kq1
  simp only [kL_r, kS_f]
  by_cases q72 : k = 72 ∧ i = 0 ∧ j = t
  · obtain ⟨rfl, rfl, rfl⟩ := q72; simp <;> omega
  by_cases q73 : k = 73 ∧ i = 0 ∧ j = t
  · obtain ⟨rfl, rfl, rfl⟩ := q73; simp <;> omega
  by_cases q74 : k = 74 ∧ i = 0 ∧ j = t
  · obtain ⟨rfl, rfl, rfl⟩ := q74; simp <;> omega
  by_cases q83 : k = 83 ∧ i = 0 ∧ j = t
  · obtain ⟨rfl, rfl, rfl⟩ := q83; simp <;> omega
  by_cases q84 : k = 84 ∧ i = 0 ∧ j = t
  · obtain ⟨rfl, rfl, rfl⟩ := q84; simp <;> omega
  by_cases q85 : k = 85 ∧ i = 0 ∧ j = t
  · obtain ⟨rfl, rfl, rfl⟩ := q85; simp <;> omega
  simp [h, q72, q73, q74, q83, q84, q85]
theorem kT_s72 (t : Int) (m : Mm) : rd (kT false t m) 90 0 (t) = rd m 72 0 t := by
  unfold kT kq2 kq1
  simp only [kL_r, kS_f]
  rw [if_neg (by omega), if_neg (by omega), if_neg (by omega), if_neg (by omega), if_neg (by omega), if_neg (by omega)]
  rw [if_neg (by omega), if_neg (by omega), if_neg (by omega), if_neg (by omega), if_neg (by omega), if_pos (by first | omega | simp)]
theorem kT_s73 (t : Int) (m : Mm) : rd (kT false t m) 90 0 (24 + t) = rd m 73 0 t := by
  unfold kT kq2 kq1
  simp only [kL_r, kS_f]
  rw [if_neg (by omega), if_neg (by omega), if_neg (by omega), if_neg (by omega), if_neg (by omega), if_neg (by omega)]
  rw [if_neg (by omega), if_neg (by omega), if_neg (by omega), if_neg (by omega), if_pos (by first | omega | simp)]
  rw [if_neg (by omega)]
theorem kT_s74 (t : Int) (m : Mm) : rd (kT false t m) 90 0 (48 + t) = rd m 74 0 t := by
  unfold kT kq2 kq1
  simp only [kL_r, kS_f]
  rw [if_neg (by omega), if_neg (by omega), if_neg (by omega), if_neg (by omega), if_neg (by omega), if_neg (by omega)]
  rw [if_neg (by omega), if_neg (by omega), if_neg (by omega), if_pos (by first | omega | simp)]
  rw [if_neg (by omega), if_neg (by omega)]
theorem kT_s83 (t : Int) (m : Mm) : rd (kT false t m) 90 0 (72 + t) = rd m 83 0 t := by
  unfold kT kq2 kq1
  simp only [kL_r, kS_f]
  rw [if_neg (by omega), if_neg (by omega), if_neg (by omega), if_neg (by omega), if_neg (by omega), if_neg (by omega)]
  rw [if_neg (by omega), if_neg (by omega), if_pos (by first | omega | simp)]
  rw [if_neg (by omega), if_neg (by omega), if_neg (by omega)]
theorem kT_s84 (t : Int) (m : Mm) : rd (kT false t m) 90 0 (96 + t) = rd m 84 0 t := by
  unfold kT kq2 kq1
  simp only [kL_r, kS_f]
  rw [if_neg (by omega), if_neg (by omega), if_neg (by omega), if_neg (by omega), if_neg (by omega), if_neg (by omega)]
  rw [if_neg (by omega), if_pos (by first | omega | simp)]
  rw [if_neg (by omega), if_neg (by omega), if_neg (by omega), if_neg (by omega)]
theorem kT_s85 (t : Int) (m : Mm) : rd (kT false t m) 90 0 (120 + t) = rd m 85 0 t := by
  unfold kT kq2 kq1
  simp only [kL_r, kS_f]
  rw [if_neg (by omega), if_neg (by omega), if_neg (by omega), if_neg (by omega), if_neg (by omega), if_neg (by omega)]
  rw [if_pos (by first | omega | simp)]
  rw [if_neg (by omega), if_neg (by omega), if_neg (by omega), if_neg (by omega), if_neg (by omega)]
theorem kT_so (z : Bool) (t : Int) (m : Mm) (j : Int) (h : j ≠ t ∧ j ≠ 24 + t ∧ j ≠ 48 + t ∧ j ≠ 72 + t ∧ j ≠ 96 + t ∧ j ≠ 120 + t) : rd (kT z t m) 90 0 j = rd m 90 0 j := by
  unfold kT kq2 kq1
  simp only [kL_r]
  rw [if_neg (by omega), if_neg (by omega), if_neg (by omega), if_neg (by omega), if_neg (by omega), if_neg (by omega)]
  cases z with
  | true => simp only [kS_t]
  | false => simp only [kS_f]; rw [if_neg (by omega), if_neg (by omega), if_neg (by omega), if_neg (by omega), if_neg (by omega), if_neg (by omega)]
theorem kT_t (t : Int) (m : Mm) (j : Int) : rd (kT true t m) 90 0 j = rd m 90 0 j := by
  unfold kT kq2 kq1
  simp only [kL_r, kS_t]
  rw [if_neg (by omega), if_neg (by omega), if_neg (by omega), if_neg (by omega), if_neg (by omega), if_neg (by omega)]
theorem kT_t72 (t j : Int) (m : Mm) : rd (kT true t m) 72 0 j = if j = t then rd m 90 0 (t) else rd m 72 0 j := by
  unfold kT kq2 kq1
  simp [kL_r, kS_t]
theorem kT_t73 (t j : Int) (m : Mm) : rd (kT true t m) 73 0 j = if j = t then rd m 90 0 (24 + t) else rd m 73 0 j := by
  unfold kT kq2 kq1
  simp [kL_r, kS_t]
theorem kT_t74 (t j : Int) (m : Mm) : rd (kT true t m) 74 0 j = if j = t then rd m 90 0 (48 + t) else rd m 74 0 j := by
  unfold kT kq2 kq1
  simp [kL_r, kS_t]
theorem kT_t83 (t j : Int) (m : Mm) : rd (kT true t m) 83 0 j = if j = t then rd m 90 0 (72 + t) else rd m 83 0 j := by
  unfold kT kq2 kq1
  simp [kL_r, kS_t]
theorem kT_t84 (t j : Int) (m : Mm) : rd (kT true t m) 84 0 j = if j = t then rd m 90 0 (96 + t) else rd m 84 0 j := by
  unfold kT kq2 kq1
  simp [kL_r, kS_t]
theorem kT_t85 (t j : Int) (m : Mm) : rd (kT true t m) 85 0 j = if j = t then rd m 90 0 (120 + t) else rd m 85 0 j := by
  unfold kT kq2 kq1
  simp [kL_r, kS_t]
theorem kT_to (z : Bool) (t : Int) (m : Mm) (k : Nat) (i j : Int) (h : k ≠ 90 ∧ k ≠ 72 ∧ k ≠ 73 ∧ k ≠ 74 ∧ k ≠ 83 ∧ k ≠ 84 ∧ k ≠ 85) : rd (kT z t m) k i j = rd m k i j := by
  unfold kT kq2 kq1
  simp only [kL_r]
  rw [if_neg (by omega), if_neg (by omega), if_neg (by omega), if_neg (by omega), if_neg (by omega), if_neg (by omega)]
  cases z with
  | true => simp only [kS_t]
  | false => simp only [kS_f]; rw [if_neg (by omega), if_neg (by omega), if_neg (by omega), if_neg (by omega), if_neg (by omega), if_neg (by omega)]
theorem kqA_f (t : Int) (m : Mm) (k : Nat) (i j : Int) (h : k ≠ 90) : rd (kqA false t m) k i j = rd m k i j := by
  unfold kqA
  simp only [kL_r, kS_f]
  by_cases q75 : k = 75 ∧ i = 0 ∧ j = t
  · obtain ⟨rfl, rfl, rfl⟩ := q75; simp <;> omega
  simp [h, q75]
theorem kqA_s75 (t : Int) (m : Mm) : rd (kqA false t m) 90 0 (144 + t) = rd m 75 0 t := by
  unfold kqA
  simp only [kL_r, kS_f]
  rw [if_neg (by omega)]
  rw [if_pos (by first | omega | simp)]
theorem kqA_so (z : Bool) (t : Int) (m : Mm) (j : Int) (h : j ≠ 144 + t) : rd (kqA z t m) 90 0 j = rd m 90 0 j := by
  unfold kqA
  simp only [kL_r]
  rw [if_neg (by omega)]
  cases z with
  | true => simp only [kS_t]
  | false => simp only [kS_f]; rw [if_neg (by omega)]
theorem kqA_t (t : Int) (m : Mm) (j : Int) : rd (kqA true t m) 90 0 j = rd m 90 0 j := by
  unfold kqA
  simp only [kL_r, kS_t]
  rw [if_neg (by omega)]
theorem kqA_t75 (t j : Int) (m : Mm) : rd (kqA true t m) 75 0 j = if j = t then rd m 90 0 (144 + t) else rd m 75 0 j := by
  unfold kqA
  simp [kL_r, kS_t]
theorem kqA_to (z : Bool) (t : Int) (m : Mm) (k : Nat) (i j : Int) (h : k ≠ 90 ∧ k ≠ 75) : rd (kqA z t m) k i j = rd m k i j := by
  unfold kqA
  simp only [kL_r]
  rw [if_neg (by omega)]
  cases z with
  | true => simp only [kS_t]
  | false => simp only [kS_f]; rw [if_neg (by omega)]
theorem kqC_f (t : Int) (m : Mm) (k : Nat) (i j : Int) (h : k ≠ 90) : rd (kqC false t m) k i j = rd m k i j := by
  unfold kqC
  simp only [kL_r, kS_f]
  by_cases q76 : k = 76 ∧ i = 0 ∧ j = t
  · obtain ⟨rfl, rfl, rfl⟩ := q76; simp <;> omega
  by_cases q77 : k = 77 ∧ i = 0 ∧ j = t
  · obtain ⟨rfl, rfl, rfl⟩ := q77; simp <;> omega
  simp [h, q76, q77]
theorem kqC_s76 (t : Int) (m : Mm) : rd (kqC false t m) 90 0 (154 + t) = rd m 76 0 t := by
  unfold kqC
  simp only [kL_r, kS_f]
  rw [if_neg (by omega), if_neg (by omega)]
  rw [if_neg (by omega), if_pos (by first | omega | simp)]
theorem kqC_s77 (t : Int) (m : Mm) : rd (kqC false t m) 90 0 (158 + t) = rd m 77 0 t := by
  unfold kqC
  simp only [kL_r, kS_f]
  rw [if_neg (by omega), if_neg (by omega)]
  rw [if_pos (by first | omega | simp)]
  rw [if_neg (by omega)]
theorem kqC_so (z : Bool) (t : Int) (m : Mm) (j : Int) (h : j ≠ 154 + t ∧ j ≠ 158 + t) : rd (kqC z t m) 90 0 j = rd m 90 0 j := by
  unfold kqC
  simp only [kL_r]
  rw [if_neg (by omega), if_neg (by omega)]
  cases z with
  | true => simp only [kS_t]
  | false => simp only [kS_f]; rw [if_neg (by omega), if_neg (by omega)]
theorem kqC_t (t : Int) (m : Mm) (j : Int) : rd (kqC true t m) 90 0 j = rd m 90 0 j := by
  unfold kqC
  simp only [kL_r, kS_t]
  rw [if_neg (by omega), if_neg (by omega)]
theorem kqC_t76 (t j : Int) (m : Mm) : rd (kqC true t m) 76 0 j = if j = t then rd m 90 0 (154 + t) else rd m 76 0 j := by
  unfold kqC
  simp [kL_r, kS_t]
theorem kqC_t77 (t j : Int) (m : Mm) : rd (kqC true t m) 77 0 j = if j = t then rd m 90 0 (158 + t) else rd m 77 0 j := by
  unfold kqC
  simp [kL_r, kS_t]
theorem kqC_to (z : Bool) (t : Int) (m : Mm) (k : Nat) (i j : Int) (h : k ≠ 90 ∧ k ≠ 76 ∧ k ≠ 77) : rd (kqC z t m) k i j = rd m k i j := by
  unfold kqC
  simp only [kL_r]
  rw [if_neg (by omega), if_neg (by omega)]
  cases z with
  | true => simp only [kS_t]
  | false => simp only [kS_f]; rw [if_neg (by omega), if_neg (by omega)]
theorem kV_f (t : Int) (m : Mm) (k : Nat) (i j : Int) (h : k ≠ 90) : rd (kV false t m) k i j = rd m k i j := by
  unfold kV kq4 kq3
  simp only [kL_r, kS_f]
  by_cases q78 : k = 78 ∧ i = 0 ∧ j = t
  · obtain ⟨rfl, rfl, rfl⟩ := q78; simp <;> omega
  by_cases q79 : k = 79 ∧ i = 0 ∧ j = t
  · obtain ⟨rfl, rfl, rfl⟩ := q79; simp <;> omega
  by_cases q80 : k = 80 ∧ i = 0 ∧ j = t
  · obtain ⟨rfl, rfl, rfl⟩ := q80; simp <;> omega
  by_cases q81 : k = 81 ∧ i = 0 ∧ j = t
  · obtain ⟨rfl, rfl, rfl⟩ := q81; simp <;> omega
  by_cases q82 : k = 82 ∧ i = 0 ∧ j = t
  · obtain ⟨rfl, rfl, rfl⟩ := q82; simp <;> omega
  simp [h, q78, q79, q80, q81, q82]
theorem kV_s78 (t : Int) (m : Mm) : rd (kV false t m) 90 0 (162 + t) = rd m 78 0 t := by
  unfold kV kq4 kq3
  simp only [kL_r, kS_f]
  rw [if_neg (by omega), if_neg (by omega), if_neg (by omega), if_neg (by omega), if_neg (by omega)]
  rw [if_neg (by omega), if_neg (by omega), if_neg (by omega), if_neg (by omega), if_pos (by first | omega | simp)]
theorem kV_s79 (t : Int) (m : Mm) : rd (kV false t m) 90 0 (165 + t) = rd m 79 0 t := by
  unfold kV kq4 kq3
  simp only [kL_r, kS_f]
  rw [if_neg (by omega), if_neg (by omega), if_neg (by omega), if_neg (by omega), if_neg (by omega)]
  rw [if_neg (by omega), if_neg (by omega), if_neg (by omega), if_pos (by first | omega | simp)]
  rw [if_neg (by omega)]
theorem kV_s80 (t : Int) (m : Mm) : rd (kV false t m) 90 0 (168 + t) = rd m 80 0 t := by
  unfold kV kq4 kq3
  simp only [kL_r, kS_f]
  rw [if_neg (by omega), if_neg (by omega), if_neg (by omega), if_neg (by omega), if_neg (by omega)]
  rw [if_neg (by omega), if_neg (by omega), if_pos (by first | omega | simp)]
  rw [if_neg (by omega), if_neg (by omega)]
theorem kV_s81 (t : Int) (m : Mm) : rd (kV false t m) 90 0 (171 + t) = rd m 81 0 t := by
  unfold kV kq4 kq3
  simp only [kL_r, kS_f]
  rw [if_neg (by omega), if_neg (by omega), if_neg (by omega), if_neg (by omega), if_neg (by omega)]
  rw [if_neg (by omega), if_pos (by first | omega | simp)]
  rw [if_neg (by omega), if_neg (by omega), if_neg (by omega)]
theorem kV_s82 (t : Int) (m : Mm) : rd (kV false t m) 90 0 (174 + t) = rd m 82 0 t := by
  unfold kV kq4 kq3
  simp only [kL_r, kS_f]
  rw [if_neg (by omega), if_neg (by omega), if_neg (by omega), if_neg (by omega), if_neg (by omega)]
  rw [if_pos (by first | omega | simp)]
  rw [if_neg (by omega), if_neg (by omega), if_neg (by omega), if_neg (by omega)]
theorem kV_so (z : Bool) (t : Int) (m : Mm) (j : Int) (h : j ≠ 162 + t ∧ j ≠ 165 + t ∧ j ≠ 168 + t ∧ j ≠ 171 + t ∧ j ≠ 174 + t) : rd (kV z t m) 90 0 j = rd m 90 0 j := by
  unfold kV kq4 kq3
  simp only [kL_r]
  rw [if_neg (by omega), if_neg (by omega), if_neg (by omega), if_neg (by omega), if_neg (by omega)]
  cases z with
  | true => simp only [kS_t]
  | false => simp only [kS_f]; rw [if_neg (by omega), if_neg (by omega), if_neg (by omega), if_neg (by omega), if_neg (by omega)]
theorem kV_t (t : Int) (m : Mm) (j : Int) : rd (kV true t m) 90 0 j = rd m 90 0 j := by
  unfold kV kq4 kq3
  simp only [kL_r, kS_t]
  rw [if_neg (by omega), if_neg (by omega), if_neg (by omega), if_neg (by omega), if_neg (by omega)]
theorem kV_t78 (t j : Int) (m : Mm) : rd (kV true t m) 78 0 j = if j = t then rd m 90 0 (162 + t) else rd m 78 0 j := by
  unfold kV kq4 kq3
  simp [kL_r, kS_t]
theorem kV_t79 (t j : Int) (m : Mm) : rd (kV true t m) 79 0 j = if j = t then rd m 90 0 (165 + t) else rd m 79 0 j := by
  unfold kV kq4 kq3
  simp [kL_r, kS_t]
theorem kV_t80 (t j : Int) (m : Mm) : rd (kV true t m) 80 0 j = if j = t then rd m 90 0 (168 + t) else rd m 80 0 j := by
  unfold kV kq4 kq3
  simp [kL_r, kS_t]
theorem kV_t81 (t j : Int) (m : Mm) : rd (kV true t m) 81 0 j = if j = t then rd m 90 0 (171 + t) else rd m 81 0 j := by
  unfold kV kq4 kq3
  simp [kL_r, kS_t]
theorem kV_t82 (t j : Int) (m : Mm) : rd (kV true t m) 82 0 j = if j = t then rd m 90 0 (174 + t) else rd m 82 0 j := by
  unfold kV kq4 kq3
  simp [kL_r, kS_t]
theorem kV_to (z : Bool) (t : Int) (m : Mm) (k : Nat) (i j : Int) (h : k ≠ 90 ∧ k ≠ 78 ∧ k ≠ 79 ∧ k ≠ 80 ∧ k ≠ 81 ∧ k ≠ 82) : rd (kV z t m) k i j = rd m k i j := by
  unfold kV kq4 kq3
  simp only [kL_r]
  rw [if_neg (by omega), if_neg (by omega), if_neg (by omega), if_neg (by omega), if_neg (by omega)]
  cases z with
  | true => simp only [kS_t]
  | false => simp only [kS_f]; rw [if_neg (by omega), if_neg (by omega), if_neg (by omega), if_neg (by omega), if_neg (by omega)]
theorem kq_eq (z : Bool) (m : Mm) : kqM z m = fori (kV z) 3 0 (fori (kqC z) 4 0 (fori (kqA z) 10 0 (fori (kT z) 24 0 m))) := rfl
/-- keep(false) changes nothing but what it keeps in -/
theorem kq_f (m : Mm) (k : Nat) (i j : Int) (h : k ≠ 90) : rd (kqM false m) k i j = rd m k i j := by
  rw [kq_eq, fori_out 0 3 3 0 _ (by decide) (by decide) (fun t m _ _ _ _ => kV_f t m k i j h), fori_out 0 4 4 0 _ (by decide) (by decide) (fun t m _ _ _ _ => kqC_f t m k i j h), fori_out 0 10 10 0 _ (by decide) (by decide) (fun t m _ _ _ _ => kqA_f t m k i j h), fori_out 0 24 24 0 _ (by decide) (by decide) (fun t m _ _ _ _ => kT_f t m k i j h)]
theorem kq_o (z : Bool) (m : Mm) (k : Nat) (i j : Int) (h : k < 72 ∨ (85 < k ∧ k ≠ 90)) : rd (kqM z m) k i j = rd m k i j := by
  rw [kq_eq, fori_out 0 3 3 0 _ (by decide) (by decide) (fun t m _ _ _ _ => kV_to z t m k i j (by omega)), fori_out 0 4 4 0 _ (by decide) (by decide) (fun t m _ _ _ _ => kqC_to z t m k i j (by omega)), fori_out 0 10 10 0 _ (by decide) (by decide) (fun t m _ _ _ _ => kqA_to z t m k i j (by omega)), fori_out 0 24 24 0 _ (by decide) (by decide) (fun t m _ _ _ _ => kT_to z t m k i j (by omega))]
def rng (k : Nat) (j : Int) : Prop := 0 ≤ j ∧ j < (if k = 75 then 10 else if k = 76 ∨ k = 77 then 4 else if 78 ≤ k ∧ k ≤ 82 then 3 else 24)
def offK (k : Nat) : Int := if k = 72 then 0 else if k = 73 then 24 else if k = 74 then 48 else if k = 83 then 72 else if k = 84 then 96 else if k = 85 then 120 else if k = 75 then 144 else if k = 76 then 154 else if k = 77 then 158 else if k = 78 then 162 else if k = 79 then 165 else if k = 80 then 168 else if k = 81 then 171 else 174
theorem kq_s72 (m : Mm) (t : Int) (t0 : 0 ≤ t) (t1 : t < 24) : rd (kqM false m) 90 0 (t) = rd m 72 0 t := by
  rw [kq_eq]
  rw [fori_out 0 3 3 0 _ (by decide) (by decide) (fun t9 m _ _ _ _ => kV_so false t9 m _ (by omega))]
  rw [fori_out 0 4 4 0 _ (by decide) (by decide) (fun t9 m _ _ _ _ => kqC_so false t9 m _ (by omega))]
  rw [fori_out 0 10 10 0 _ (by decide) (by decide) (fun t9 m _ _ _ _ => kqA_so false t9 m _ (by omega))]
  refine (fori_at2 (F := kT false) (inv := fun m9 => ∀ z, rd m9 72 0 z = rd m 72 0 z) (k := 90) (i := 0) (ix := fun t => t) (V := fun t => rd m 72 0 t) 0 24 (fun t9 m9 _ _ h z => (kT_f t9 m9 72 0 z (by decide)).trans (h z)) (fun t9 m9 _ _ h => (kT_s72 t9 m9).trans (h t9)) (fun t9 t8 m9 _ _ _ _ _ => kT_so false t9 m9 _ (by omega)) 24 0 _ (by decide) (by decide) (fun z => ?_) t t0 (by omega))
  rfl
theorem kq_t72 (m : Mm) (t : Int) (t0 : 0 ≤ t) (t1 : t < 24) : rd (kqM true m) 72 0 t = rd m 90 0 (t) := by
  rw [kq_eq]
  rw [fori_out 0 3 3 0 _ (by decide) (by decide) (fun t9 m _ _ _ _ => kV_to true t9 m _ _ _ (by decide))]
  rw [fori_out 0 4 4 0 _ (by decide) (by decide) (fun t9 m _ _ _ _ => kqC_to true t9 m _ _ _ (by decide))]
  rw [fori_out 0 10 10 0 _ (by decide) (by decide) (fun t9 m _ _ _ _ => kqA_to true t9 m _ _ _ (by decide))]
  refine (fori_at2 (F := kT true) (inv := fun m9 => ∀ z, rd m9 90 0 z = rd m 90 0 z) (k := 72) (i := 0) (ix := fun t => t) (V := fun t => rd m 90 0 (t)) 0 24 (fun t9 m9 _ _ h z => (kT_t t9 m9 z).trans (h z)) (fun t9 m9 _ _ h => by rw [kT_t72, if_pos rfl]; exact h _) (fun t9 t8 m9 _ _ _ _ hne => by rw [kT_t72, if_neg (fun c => hne c.symm)]) 24 0 _ (by decide) (by decide) (fun z => ?_) t t0 (by omega))
  rfl
theorem kq_s73 (m : Mm) (t : Int) (t0 : 0 ≤ t) (t1 : t < 24) : rd (kqM false m) 90 0 (24 + t) = rd m 73 0 t := by
  rw [kq_eq]
  rw [fori_out 0 3 3 0 _ (by decide) (by decide) (fun t9 m _ _ _ _ => kV_so false t9 m _ (by omega))]
  rw [fori_out 0 4 4 0 _ (by decide) (by decide) (fun t9 m _ _ _ _ => kqC_so false t9 m _ (by omega))]
  rw [fori_out 0 10 10 0 _ (by decide) (by decide) (fun t9 m _ _ _ _ => kqA_so false t9 m _ (by omega))]
  refine (fori_at2 (F := kT false) (inv := fun m9 => ∀ z, rd m9 73 0 z = rd m 73 0 z) (k := 90) (i := 0) (ix := fun t => 24 + t) (V := fun t => rd m 73 0 t) 0 24 (fun t9 m9 _ _ h z => (kT_f t9 m9 73 0 z (by decide)).trans (h z)) (fun t9 m9 _ _ h => (kT_s73 t9 m9).trans (h t9)) (fun t9 t8 m9 _ _ _ _ _ => kT_so false t9 m9 _ (by omega)) 24 0 _ (by decide) (by decide) (fun z => ?_) t t0 (by omega))
  rfl
theorem kq_t73 (m : Mm) (t : Int) (t0 : 0 ≤ t) (t1 : t < 24) : rd (kqM true m) 73 0 t = rd m 90 0 (24 + t) := by
  rw [kq_eq]
  rw [fori_out 0 3 3 0 _ (by decide) (by decide) (fun t9 m _ _ _ _ => kV_to true t9 m _ _ _ (by decide))]
  rw [fori_out 0 4 4 0 _ (by decide) (by decide) (fun t9 m _ _ _ _ => kqC_to true t9 m _ _ _ (by decide))]
  rw [fori_out 0 10 10 0 _ (by decide) (by decide) (fun t9 m _ _ _ _ => kqA_to true t9 m _ _ _ (by decide))]
  refine (fori_at2 (F := kT true) (inv := fun m9 => ∀ z, rd m9 90 0 z = rd m 90 0 z) (k := 73) (i := 0) (ix := fun t => t) (V := fun t => rd m 90 0 (24 + t)) 0 24 (fun t9 m9 _ _ h z => (kT_t t9 m9 z).trans (h z)) (fun t9 m9 _ _ h => by rw [kT_t73, if_pos rfl]; exact h _) (fun t9 t8 m9 _ _ _ _ hne => by rw [kT_t73, if_neg (fun c => hne c.symm)]) 24 0 _ (by decide) (by decide) (fun z => ?_) t t0 (by omega))
  rfl
theorem kq_s74 (m : Mm) (t : Int) (t0 : 0 ≤ t) (t1 : t < 24) : rd (kqM false m) 90 0 (48 + t) = rd m 74 0 t := by
  rw [kq_eq]
  rw [fori_out 0 3 3 0 _ (by decide) (by decide) (fun t9 m _ _ _ _ => kV_so false t9 m _ (by omega))]
  rw [fori_out 0 4 4 0 _ (by decide) (by decide) (fun t9 m _ _ _ _ => kqC_so false t9 m _ (by omega))]
  rw [fori_out 0 10 10 0 _ (by decide) (by decide) (fun t9 m _ _ _ _ => kqA_so false t9 m _ (by omega))]
  refine (fori_at2 (F := kT false) (inv := fun m9 => ∀ z, rd m9 74 0 z = rd m 74 0 z) (k := 90) (i := 0) (ix := fun t => 48 + t) (V := fun t => rd m 74 0 t) 0 24 (fun t9 m9 _ _ h z => (kT_f t9 m9 74 0 z (by decide)).trans (h z)) (fun t9 m9 _ _ h => (kT_s74 t9 m9).trans (h t9)) (fun t9 t8 m9 _ _ _ _ _ => kT_so false t9 m9 _ (by omega)) 24 0 _ (by decide) (by decide) (fun z => ?_) t t0 (by omega))
  rfl
theorem kq_t74 (m : Mm) (t : Int) (t0 : 0 ≤ t) (t1 : t < 24) : rd (kqM true m) 74 0 t = rd m 90 0 (48 + t) := by
  rw [kq_eq]
  rw [fori_out 0 3 3 0 _ (by decide) (by decide) (fun t9 m _ _ _ _ => kV_to true t9 m _ _ _ (by decide))]
  rw [fori_out 0 4 4 0 _ (by decide) (by decide) (fun t9 m _ _ _ _ => kqC_to true t9 m _ _ _ (by decide))]
  rw [fori_out 0 10 10 0 _ (by decide) (by decide) (fun t9 m _ _ _ _ => kqA_to true t9 m _ _ _ (by decide))]
  refine (fori_at2 (F := kT true) (inv := fun m9 => ∀ z, rd m9 90 0 z = rd m 90 0 z) (k := 74) (i := 0) (ix := fun t => t) (V := fun t => rd m 90 0 (48 + t)) 0 24 (fun t9 m9 _ _ h z => (kT_t t9 m9 z).trans (h z)) (fun t9 m9 _ _ h => by rw [kT_t74, if_pos rfl]; exact h _) (fun t9 t8 m9 _ _ _ _ hne => by rw [kT_t74, if_neg (fun c => hne c.symm)]) 24 0 _ (by decide) (by decide) (fun z => ?_) t t0 (by omega))
  rfl
theorem kq_s83 (m : Mm) (t : Int) (t0 : 0 ≤ t) (t1 : t < 24) : rd (kqM false m) 90 0 (72 + t) = rd m 83 0 t := by
  rw [kq_eq]
  rw [fori_out 0 3 3 0 _ (by decide) (by decide) (fun t9 m _ _ _ _ => kV_so false t9 m _ (by omega))]
  rw [fori_out 0 4 4 0 _ (by decide) (by decide) (fun t9 m _ _ _ _ => kqC_so false t9 m _ (by omega))]
  rw [fori_out 0 10 10 0 _ (by decide) (by decide) (fun t9 m _ _ _ _ => kqA_so false t9 m _ (by omega))]
  refine (fori_at2 (F := kT false) (inv := fun m9 => ∀ z, rd m9 83 0 z = rd m 83 0 z) (k := 90) (i := 0) (ix := fun t => 72 + t) (V := fun t => rd m 83 0 t) 0 24 (fun t9 m9 _ _ h z => (kT_f t9 m9 83 0 z (by decide)).trans (h z)) (fun t9 m9 _ _ h => (kT_s83 t9 m9).trans (h t9)) (fun t9 t8 m9 _ _ _ _ _ => kT_so false t9 m9 _ (by omega)) 24 0 _ (by decide) (by decide) (fun z => ?_) t t0 (by omega))
  rfl
theorem kq_t83 (m : Mm) (t : Int) (t0 : 0 ≤ t) (t1 : t < 24) : rd (kqM true m) 83 0 t = rd m 90 0 (72 + t) := by
  rw [kq_eq]
  rw [fori_out 0 3 3 0 _ (by decide) (by decide) (fun t9 m _ _ _ _ => kV_to true t9 m _ _ _ (by decide))]
  rw [fori_out 0 4 4 0 _ (by decide) (by decide) (fun t9 m _ _ _ _ => kqC_to true t9 m _ _ _ (by decide))]
  rw [fori_out 0 10 10 0 _ (by decide) (by decide) (fun t9 m _ _ _ _ => kqA_to true t9 m _ _ _ (by decide))]
  refine (fori_at2 (F := kT true) (inv := fun m9 => ∀ z, rd m9 90 0 z = rd m 90 0 z) (k := 83) (i := 0) (ix := fun t => t) (V := fun t => rd m 90 0 (72 + t)) 0 24 (fun t9 m9 _ _ h z => (kT_t t9 m9 z).trans (h z)) (fun t9 m9 _ _ h => by rw [kT_t83, if_pos rfl]; exact h _) (fun t9 t8 m9 _ _ _ _ hne => by rw [kT_t83, if_neg (fun c => hne c.symm)]) 24 0 _ (by decide) (by decide) (fun z => ?_) t t0 (by omega))
  rfl
theorem kq_s84 (m : Mm) (t : Int) (t0 : 0 ≤ t) (t1 : t < 24) : rd (kqM false m) 90 0 (96 + t) = rd m 84 0 t := by
  rw [kq_eq]
  rw [fori_out 0 3 3 0 _ (by decide) (by decide) (fun t9 m _ _ _ _ => kV_so false t9 m _ (by omega))]
  rw [fori_out 0 4 4 0 _ (by decide) (by decide) (fun t9 m _ _ _ _ => kqC_so false t9 m _ (by omega))]
  rw [fori_out 0 10 10 0 _ (by decide) (by decide) (fun t9 m _ _ _ _ => kqA_so false t9 m _ (by omega))]
  refine (fori_at2 (F := kT false) (inv := fun m9 => ∀ z, rd m9 84 0 z = rd m 84 0 z) (k := 90) (i := 0) (ix := fun t => 96 + t) (V := fun t => rd m 84 0 t) 0 24 (fun t9 m9 _ _ h z => (kT_f t9 m9 84 0 z (by decide)).trans (h z)) (fun t9 m9 _ _ h => (kT_s84 t9 m9).trans (h t9)) (fun t9 t8 m9 _ _ _ _ _ => kT_so false t9 m9 _ (by omega)) 24 0 _ (by decide) (by decide) (fun z => ?_) t t0 (by omega))
  rfl
theorem kq_t84 (m : Mm) (t : Int) (t0 : 0 ≤ t) (t1 : t < 24) : rd (kqM true m) 84 0 t = rd m 90 0 (96 + t) := by
  rw [kq_eq]
  rw [fori_out 0 3 3 0 _ (by decide) (by decide) (fun t9 m _ _ _ _ => kV_to true t9 m _ _ _ (by decide))]
  rw [fori_out 0 4 4 0 _ (by decide) (by decide) (fun t9 m _ _ _ _ => kqC_to true t9 m _ _ _ (by decide))]
  rw [fori_out 0 10 10 0 _ (by decide) (by decide) (fun t9 m _ _ _ _ => kqA_to true t9 m _ _ _ (by decide))]
  refine (fori_at2 (F := kT true) (inv := fun m9 => ∀ z, rd m9 90 0 z = rd m 90 0 z) (k := 84) (i := 0) (ix := fun t => t) (V := fun t => rd m 90 0 (96 + t)) 0 24 (fun t9 m9 _ _ h z => (kT_t t9 m9 z).trans (h z)) (fun t9 m9 _ _ h => by rw [kT_t84, if_pos rfl]; exact h _) (fun t9 t8 m9 _ _ _ _ hne => by rw [kT_t84, if_neg (fun c => hne c.symm)]) 24 0 _ (by decide) (by decide) (fun z => ?_) t t0 (by omega))
  rfl
theorem kq_s85 (m : Mm) (t : Int) (t0 : 0 ≤ t) (t1 : t < 24) : rd (kqM false m) 90 0 (120 + t) = rd m 85 0 t := by
  rw [kq_eq]
  rw [fori_out 0 3 3 0 _ (by decide) (by decide) (fun t9 m _ _ _ _ => kV_so false t9 m _ (by omega))]
  rw [fori_out 0 4 4 0 _ (by decide) (by decide) (fun t9 m _ _ _ _ => kqC_so false t9 m _ (by omega))]
  rw [fori_out 0 10 10 0 _ (by decide) (by decide) (fun t9 m _ _ _ _ => kqA_so false t9 m _ (by omega))]
  refine (fori_at2 (F := kT false) (inv := fun m9 => ∀ z, rd m9 85 0 z = rd m 85 0 z) (k := 90) (i := 0) (ix := fun t => 120 + t) (V := fun t => rd m 85 0 t) 0 24 (fun t9 m9 _ _ h z => (kT_f t9 m9 85 0 z (by decide)).trans (h z)) (fun t9 m9 _ _ h => (kT_s85 t9 m9).trans (h t9)) (fun t9 t8 m9 _ _ _ _ _ => kT_so false t9 m9 _ (by omega)) 24 0 _ (by decide) (by decide) (fun z => ?_) t t0 (by omega))
  rfl
theorem kq_t85 (m : Mm) (t : Int) (t0 : 0 ≤ t) (t1 : t < 24) : rd (kqM true m) 85 0 t = rd m 90 0 (120 + t) := by
  rw [kq_eq]
  rw [fori_out 0 3 3 0 _ (by decide) (by decide) (fun t9 m _ _ _ _ => kV_to true t9 m _ _ _ (by decide))]
  rw [fori_out 0 4 4 0 _ (by decide) (by decide) (fun t9 m _ _ _ _ => kqC_to true t9 m _ _ _ (by decide))]
  rw [fori_out 0 10 10 0 _ (by decide) (by decide) (fun t9 m _ _ _ _ => kqA_to true t9 m _ _ _ (by decide))]
  refine (fori_at2 (F := kT true) (inv := fun m9 => ∀ z, rd m9 90 0 z = rd m 90 0 z) (k := 85) (i := 0) (ix := fun t => t) (V := fun t => rd m 90 0 (120 + t)) 0 24 (fun t9 m9 _ _ h z => (kT_t t9 m9 z).trans (h z)) (fun t9 m9 _ _ h => by rw [kT_t85, if_pos rfl]; exact h _) (fun t9 t8 m9 _ _ _ _ hne => by rw [kT_t85, if_neg (fun c => hne c.symm)]) 24 0 _ (by decide) (by decide) (fun z => ?_) t t0 (by omega))
  rfl
theorem kq_s75 (m : Mm) (t : Int) (t0 : 0 ≤ t) (t1 : t < 10) : rd (kqM false m) 90 0 (144 + t) = rd m 75 0 t := by
  rw [kq_eq]
  rw [fori_out 0 3 3 0 _ (by decide) (by decide) (fun t9 m _ _ _ _ => kV_so false t9 m _ (by omega))]
  rw [fori_out 0 4 4 0 _ (by decide) (by decide) (fun t9 m _ _ _ _ => kqC_so false t9 m _ (by omega))]
  refine (fori_at2 (F := kqA false) (inv := fun m9 => ∀ z, rd m9 75 0 z = rd m 75 0 z) (k := 90) (i := 0) (ix := fun t => 144 + t) (V := fun t => rd m 75 0 t) 0 10 (fun t9 m9 _ _ h z => (kqA_f t9 m9 75 0 z (by decide)).trans (h z)) (fun t9 m9 _ _ h => (kqA_s75 t9 m9).trans (h t9)) (fun t9 t8 m9 _ _ _ _ _ => kqA_so false t9 m9 _ (by omega)) 10 0 _ (by decide) (by decide) (fun z => ?_) t t0 (by omega))
  rw [fori_out 0 24 24 0 _ (by decide) (by decide) (fun t9 m _ _ _ _ => kT_f t9 m 75 0 z (by decide))]
theorem kq_t75 (m : Mm) (t : Int) (t0 : 0 ≤ t) (t1 : t < 10) : rd (kqM true m) 75 0 t = rd m 90 0 (144 + t) := by
  rw [kq_eq]
  rw [fori_out 0 3 3 0 _ (by decide) (by decide) (fun t9 m _ _ _ _ => kV_to true t9 m _ _ _ (by decide))]
  rw [fori_out 0 4 4 0 _ (by decide) (by decide) (fun t9 m _ _ _ _ => kqC_to true t9 m _ _ _ (by decide))]
  refine (fori_at2 (F := kqA true) (inv := fun m9 => ∀ z, rd m9 90 0 z = rd m 90 0 z) (k := 75) (i := 0) (ix := fun t => t) (V := fun t => rd m 90 0 (144 + t)) 0 10 (fun t9 m9 _ _ h z => (kqA_t t9 m9 z).trans (h z)) (fun t9 m9 _ _ h => by rw [kqA_t75, if_pos rfl]; exact h _) (fun t9 t8 m9 _ _ _ _ hne => by rw [kqA_t75, if_neg (fun c => hne c.symm)]) 10 0 _ (by decide) (by decide) (fun z => ?_) t t0 (by omega))
  rw [fori_out 0 24 24 0 _ (by decide) (by decide) (fun t9 m _ _ _ _ => kT_t t9 m z)]
theorem kq_s76 (m : Mm) (t : Int) (t0 : 0 ≤ t) (t1 : t < 4) : rd (kqM false m) 90 0 (154 + t) = rd m 76 0 t := by
  rw [kq_eq]
  rw [fori_out 0 3 3 0 _ (by decide) (by decide) (fun t9 m _ _ _ _ => kV_so false t9 m _ (by omega))]
  refine (fori_at2 (F := kqC false) (inv := fun m9 => ∀ z, rd m9 76 0 z = rd m 76 0 z) (k := 90) (i := 0) (ix := fun t => 154 + t) (V := fun t => rd m 76 0 t) 0 4 (fun t9 m9 _ _ h z => (kqC_f t9 m9 76 0 z (by decide)).trans (h z)) (fun t9 m9 _ _ h => (kqC_s76 t9 m9).trans (h t9)) (fun t9 t8 m9 _ _ _ _ _ => kqC_so false t9 m9 _ (by omega)) 4 0 _ (by decide) (by decide) (fun z => ?_) t t0 (by omega))
  rw [fori_out 0 10 10 0 _ (by decide) (by decide) (fun t9 m _ _ _ _ => kqA_f t9 m 76 0 z (by decide)), fori_out 0 24 24 0 _ (by decide) (by decide) (fun t9 m _ _ _ _ => kT_f t9 m 76 0 z (by decide))]
theorem kq_t76 (m : Mm) (t : Int) (t0 : 0 ≤ t) (t1 : t < 4) : rd (kqM true m) 76 0 t = rd m 90 0 (154 + t) := by
  rw [kq_eq]
  rw [fori_out 0 3 3 0 _ (by decide) (by decide) (fun t9 m _ _ _ _ => kV_to true t9 m _ _ _ (by decide))]
  refine (fori_at2 (F := kqC true) (inv := fun m9 => ∀ z, rd m9 90 0 z = rd m 90 0 z) (k := 76) (i := 0) (ix := fun t => t) (V := fun t => rd m 90 0 (154 + t)) 0 4 (fun t9 m9 _ _ h z => (kqC_t t9 m9 z).trans (h z)) (fun t9 m9 _ _ h => by rw [kqC_t76, if_pos rfl]; exact h _) (fun t9 t8 m9 _ _ _ _ hne => by rw [kqC_t76, if_neg (fun c => hne c.symm)]) 4 0 _ (by decide) (by decide) (fun z => ?_) t t0 (by omega))
  rw [fori_out 0 10 10 0 _ (by decide) (by decide) (fun t9 m _ _ _ _ => kqA_t t9 m z), fori_out 0 24 24 0 _ (by decide) (by decide) (fun t9 m _ _ _ _ => kT_t t9 m z)]
theorem kq_s77 (m : Mm) (t : Int) (t0 : 0 ≤ t) (t1 : t < 4) : rd (kqM false m) 90 0 (158 + t) = rd m 77 0 t := by
  rw [kq_eq]
  rw [fori_out 0 3 3 0 _ (by decide) (by decide) (fun t9 m _ _ _ _ => kV_so false t9 m _ (by omega))]
  refine (fori_at2 (F := kqC false) (inv := fun m9 => ∀ z, rd m9 77 0 z = rd m 77 0 z) (k := 90) (i := 0) (ix := fun t => 158 + t) (V := fun t => rd m 77 0 t) 0 4 (fun t9 m9 _ _ h z => (kqC_f t9 m9 77 0 z (by decide)).trans (h z)) (fun t9 m9 _ _ h => (kqC_s77 t9 m9).trans (h t9)) (fun t9 t8 m9 _ _ _ _ _ => kqC_so false t9 m9 _ (by omega)) 4 0 _ (by decide) (by decide) (fun z => ?_) t t0 (by omega))
  rw [fori_out 0 10 10 0 _ (by decide) (by decide) (fun t9 m _ _ _ _ => kqA_f t9 m 77 0 z (by decide)), fori_out 0 24 24 0 _ (by decide) (by decide) (fun t9 m _ _ _ _ => kT_f t9 m 77 0 z (by decide))]
theorem kq_t77 (m : Mm) (t : Int) (t0 : 0 ≤ t) (t1 : t < 4) : rd (kqM true m) 77 0 t = rd m 90 0 (158 + t) := by
  rw [kq_eq]
  rw [fori_out 0 3 3 0 _ (by decide) (by decide) (fun t9 m _ _ _ _ => kV_to true t9 m _ _ _ (by decide))]
  refine (fori_at2 (F := kqC true) (inv := fun m9 => ∀ z, rd m9 90 0 z = rd m 90 0 z) (k := 77) (i := 0) (ix := fun t => t) (V := fun t => rd m 90 0 (158 + t)) 0 4 (fun t9 m9 _ _ h z => (kqC_t t9 m9 z).trans (h z)) (fun t9 m9 _ _ h => by rw [kqC_t77, if_pos rfl]; exact h _) (fun t9 t8 m9 _ _ _ _ hne => by rw [kqC_t77, if_neg (fun c => hne c.symm)]) 4 0 _ (by decide) (by decide) (fun z => ?_) t t0 (by omega))
  rw [fori_out 0 10 10 0 _ (by decide) (by decide) (fun t9 m _ _ _ _ => kqA_t t9 m z), fori_out 0 24 24 0 _ (by decide) (by decide) (fun t9 m _ _ _ _ => kT_t t9 m z)]
theorem kq_s78 (m : Mm) (t : Int) (t0 : 0 ≤ t) (t1 : t < 3) : rd (kqM false m) 90 0 (162 + t) = rd m 78 0 t := by
  rw [kq_eq]
  refine (fori_at2 (F := kV false) (inv := fun m9 => ∀ z, rd m9 78 0 z = rd m 78 0 z) (k := 90) (i := 0) (ix := fun t => 162 + t) (V := fun t => rd m 78 0 t) 0 3 (fun t9 m9 _ _ h z => (kV_f t9 m9 78 0 z (by decide)).trans (h z)) (fun t9 m9 _ _ h => (kV_s78 t9 m9).trans (h t9)) (fun t9 t8 m9 _ _ _ _ _ => kV_so false t9 m9 _ (by omega)) 3 0 _ (by decide) (by decide) (fun z => ?_) t t0 (by omega))
  rw [fori_out 0 4 4 0 _ (by decide) (by decide) (fun t9 m _ _ _ _ => kqC_f t9 m 78 0 z (by decide)), fori_out 0 10 10 0 _ (by decide) (by decide) (fun t9 m _ _ _ _ => kqA_f t9 m 78 0 z (by decide)), fori_out 0 24 24 0 _ (by decide) (by decide) (fun t9 m _ _ _ _ => kT_f t9 m 78 0 z (by decide))]
theorem kq_t78 (m : Mm) (t : Int) (t0 : 0 ≤ t) (t1 : t < 3) : rd (kqM true m) 78 0 t = rd m 90 0 (162 + t) := by
  rw [kq_eq]
  refine (fori_at2 (F := kV true) (inv := fun m9 => ∀ z, rd m9 90 0 z = rd m 90 0 z) (k := 78) (i := 0) (ix := fun t => t) (V := fun t => rd m 90 0 (162 + t)) 0 3 (fun t9 m9 _ _ h z => (kV_t t9 m9 z).trans (h z)) (fun t9 m9 _ _ h => by rw [kV_t78, if_pos rfl]; exact h _) (fun t9 t8 m9 _ _ _ _ hne => by rw [kV_t78, if_neg (fun c => hne c.symm)]) 3 0 _ (by decide) (by decide) (fun z => ?_) t t0 (by omega))
  rw [fori_out 0 4 4 0 _ (by decide) (by decide) (fun t9 m _ _ _ _ => kqC_t t9 m z), fori_out 0 10 10 0 _ (by decide) (by decide) (fun t9 m _ _ _ _ => kqA_t t9 m z), fori_out 0 24 24 0 _ (by decide) (by decide) (fun t9 m _ _ _ _ => kT_t t9 m z)]
theorem kq_s79 (m : Mm) (t : Int) (t0 : 0 ≤ t) (t1 : t < 3) : rd (kqM false m) 90 0 (165 + t) = rd m 79 0 t := by
  rw [kq_eq]
  refine (fori_at2 (F := kV false) (inv := fun m9 => ∀ z, rd m9 79 0 z = rd m 79 0 z) (k := 90) (i := 0) (ix := fun t => 165 + t) (V := fun t => rd m 79 0 t) 0 3 (fun t9 m9 _ _ h z => (kV_f t9 m9 79 0 z (by decide)).trans (h z)) (fun t9 m9 _ _ h => (kV_s79 t9 m9).trans (h t9)) (fun t9 t8 m9 _ _ _ _ _ => kV_so false t9 m9 _ (by omega)) 3 0 _ (by decide) (by decide) (fun z => ?_) t t0 (by omega))
  rw [fori_out 0 4 4 0 _ (by decide) (by decide) (fun t9 m _ _ _ _ => kqC_f t9 m 79 0 z (by decide)), fori_out 0 10 10 0 _ (by decide) (by decide) (fun t9 m _ _ _ _ => kqA_f t9 m 79 0 z (by decide)), fori_out 0 24 24 0 _ (by decide) (by decide) (fun t9 m _ _ _ _ => kT_f t9 m 79 0 z (by decide))]
theorem kq_t79 (m : Mm) (t : Int) (t0 : 0 ≤ t) (t1 : t < 3) : rd (kqM true m) 79 0 t = rd m 90 0 (165 + t) := by
  rw [kq_eq]
  refine (fori_at2 (F := kV true) (inv := fun m9 => ∀ z, rd m9 90 0 z = rd m 90 0 z) (k := 79) (i := 0) (ix := fun t => t) (V := fun t => rd m 90 0 (165 + t)) 0 3 (fun t9 m9 _ _ h z => (kV_t t9 m9 z).trans (h z)) (fun t9 m9 _ _ h => by rw [kV_t79, if_pos rfl]; exact h _) (fun t9 t8 m9 _ _ _ _ hne => by rw [kV_t79, if_neg (fun c => hne c.symm)]) 3 0 _ (by decide) (by decide) (fun z => ?_) t t0 (by omega))
  rw [fori_out 0 4 4 0 _ (by decide) (by decide) (fun t9 m _ _ _ _ => kqC_t t9 m z), fori_out 0 10 10 0 _ (by decide) (by decide) (fun t9 m _ _ _ _ => kqA_t t9 m z), fori_out 0 24 24 0 _ (by decide) (by decide) (fun t9 m _ _ _ _ => kT_t t9 m z)]
theorem kq_s80 (m : Mm) (t : Int) (t0 : 0 ≤ t) (t1 : t < 3) : rd (kqM false m) 90 0 (168 + t) = rd m 80 0 t := by
  rw [kq_eq]
  refine (fori_at2 (F := kV false) (inv := fun m9 => ∀ z, rd m9 80 0 z = rd m 80 0 z) (k := 90) (i := 0) (ix := fun t => 168 + t) (V := fun t => rd m 80 0 t) 0 3 (fun t9 m9 _ _ h z => (kV_f t9 m9 80 0 z (by decide)).trans (h z)) (fun t9 m9 _ _ h => (kV_s80 t9 m9).trans (h t9)) (fun t9 t8 m9 _ _ _ _ _ => kV_so false t9 m9 _ (by omega)) 3 0 _ (by decide) (by decide) (fun z => ?_) t t0 (by omega))
  rw [fori_out 0 4 4 0 _ (by decide) (by decide) (fun t9 m _ _ _ _ => kqC_f t9 m 80 0 z (by decide)), fori_out 0 10 10 0 _ (by decide) (by decide) (fun t9 m _ _ _ _ => kqA_f t9 m 80 0 z (by decide)), fori_out 0 24 24 0 _ (by decide) (by decide) (fun t9 m _ _ _ _ => kT_f t9 m 80 0 z (by decide))]
theorem kq_t80 (m : Mm) (t : Int) (t0 : 0 ≤ t) (t1 : t < 3) : rd (kqM true m) 80 0 t = rd m 90 0 (168 + t) := by
  rw [kq_eq]
  refine (fori_at2 (F := kV true) (inv := fun m9 => ∀ z, rd m9 90 0 z = rd m 90 0 z) (k := 80) (i := 0) (ix := fun t => t) (V := fun t => rd m 90 0 (168 + t)) 0 3 (fun t9 m9 _ _ h z => (kV_t t9 m9 z).trans (h z)) (fun t9 m9 _ _ h => by rw [kV_t80, if_pos rfl]; exact h _) (fun t9 t8 m9 _ _ _ _ hne => by rw [kV_t80, if_neg (fun c => hne c.symm)]) 3 0 _ (by decide) (by decide) (fun z => ?_) t t0 (by omega))
  rw [fori_out 0 4 4 0 _ (by decide) (by decide) (fun t9 m _ _ _ _ => kqC_t t9 m z), fori_out 0 10 10 0 _ (by decide) (by decide) (fun t9 m _ _ _ _ => kqA_t t9 m z), fori_out 0 24 24 0 _ (by decide) (by decide) (fun t9 m _ _ _ _ => kT_t t9 m z)]
theorem kq_s81 (m : Mm) (t : Int) (t0 : 0 ≤ t) (t1 : t < 3) : rd (kqM false m) 90 0 (171 + t) = rd m 81 0 t := by
  rw [kq_eq]
  refine (fori_at2 (F := kV false) (inv := fun m9 => ∀ z, rd m9 81 0 z = rd m 81 0 z) (k := 90) (i := 0) (ix := fun t => 171 + t) (V := fun t => rd m 81 0 t) 0 3 (fun t9 m9 _ _ h z => (kV_f t9 m9 81 0 z (by decide)).trans (h z)) (fun t9 m9 _ _ h => (kV_s81 t9 m9).trans (h t9)) (fun t9 t8 m9 _ _ _ _ _ => kV_so false t9 m9 _ (by omega)) 3 0 _ (by decide) (by decide) (fun z => ?_) t t0 (by omega))
  rw [fori_out 0 4 4 0 _ (by decide) (by decide) (fun t9 m _ _ _ _ => kqC_f t9 m 81 0 z (by decide)), fori_out 0 10 10 0 _ (by decide) (by decide) (fun t9 m _ _ _ _ => kqA_f t9 m 81 0 z (by decide)), fori_out 0 24 24 0 _ (by decide) (by decide) (fun t9 m _ _ _ _ => kT_f t9 m 81 0 z (by decide))]
theorem kq_t81 (m : Mm) (t : Int) (t0 : 0 ≤ t) (t1 : t < 3) : rd (kqM true m) 81 0 t = rd m 90 0 (171 + t) := by
  rw [kq_eq]
  refine (fori_at2 (F := kV true) (inv := fun m9 => ∀ z, rd m9 90 0 z = rd m 90 0 z) (k := 81) (i := 0) (ix := fun t => t) (V := fun t => rd m 90 0 (171 + t)) 0 3 (fun t9 m9 _ _ h z => (kV_t t9 m9 z).trans (h z)) (fun t9 m9 _ _ h => by rw [kV_t81, if_pos rfl]; exact h _) (fun t9 t8 m9 _ _ _ _ hne => by rw [kV_t81, if_neg (fun c => hne c.symm)]) 3 0 _ (by decide) (by decide) (fun z => ?_) t t0 (by omega))
  rw [fori_out 0 4 4 0 _ (by decide) (by decide) (fun t9 m _ _ _ _ => kqC_t t9 m z), fori_out 0 10 10 0 _ (by decide) (by decide) (fun t9 m _ _ _ _ => kqA_t t9 m z), fori_out 0 24 24 0 _ (by decide) (by decide) (fun t9 m _ _ _ _ => kT_t t9 m z)]
theorem kq_s82 (m : Mm) (t : Int) (t0 : 0 ≤ t) (t1 : t < 3) : rd (kqM false m) 90 0 (174 + t) = rd m 82 0 t := by
  rw [kq_eq]
  refine (fori_at2 (F := kV false) (inv := fun m9 => ∀ z, rd m9 82 0 z = rd m 82 0 z) (k := 90) (i := 0) (ix := fun t => 174 + t) (V := fun t => rd m 82 0 t) 0 3 (fun t9 m9 _ _ h z => (kV_f t9 m9 82 0 z (by decide)).trans (h z)) (fun t9 m9 _ _ h => (kV_s82 t9 m9).trans (h t9)) (fun t9 t8 m9 _ _ _ _ _ => kV_so false t9 m9 _ (by omega)) 3 0 _ (by decide) (by decide) (fun z => ?_) t t0 (by omega))
  rw [fori_out 0 4 4 0 _ (by decide) (by decide) (fun t9 m _ _ _ _ => kqC_f t9 m 82 0 z (by decide)), fori_out 0 10 10 0 _ (by decide) (by decide) (fun t9 m _ _ _ _ => kqA_f t9 m 82 0 z (by decide)), fori_out 0 24 24 0 _ (by decide) (by decide) (fun t9 m _ _ _ _ => kT_f t9 m 82 0 z (by decide))]
theorem kq_t82 (m : Mm) (t : Int) (t0 : 0 ≤ t) (t1 : t < 3) : rd (kqM true m) 82 0 t = rd m 90 0 (174 + t) := by
  rw [kq_eq]
  refine (fori_at2 (F := kV true) (inv := fun m9 => ∀ z, rd m9 90 0 z = rd m 90 0 z) (k := 82) (i := 0) (ix := fun t => t) (V := fun t => rd m 90 0 (174 + t)) 0 3 (fun t9 m9 _ _ h z => (kV_t t9 m9 z).trans (h z)) (fun t9 m9 _ _ h => by rw [kV_t82, if_pos rfl]; exact h _) (fun t9 t8 m9 _ _ _ _ hne => by rw [kV_t82, if_neg (fun c => hne c.symm)]) 3 0 _ (by decide) (by decide) (fun z => ?_) t t0 (by omega))
  rw [fori_out 0 4 4 0 _ (by decide) (by decide) (fun t9 m _ _ _ _ => kqC_t t9 m z), fori_out 0 10 10 0 _ (by decide) (by decide) (fun t9 m _ _ _ _ => kqA_t t9 m z), fori_out 0 24 24 0 _ (by decide) (by decide) (fun t9 m _ _ _ _ => kT_t t9 m z)]
