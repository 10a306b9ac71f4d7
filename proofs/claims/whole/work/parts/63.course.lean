/-! ===== class and model side by side, III: visits ===== -/
def vR (lo : Int) (a m : Mm) (x s : Int) : Prop :=
  (rd m 80 0 s = -1 ∧ rd a 31 (27 * x + s) 0 = 0 ∧ rd a 31 (27 * x + s) 1 = -1 ∧ rd a 31 (27 * x + s) 2 = 0) ∨
  ((0 ≤ rd m 80 0 s ∧ rd m 80 0 s < rd m 40 0 25) ∧ rd a 31 (27 * x + s) 0 = 1 ∧ rd a 31 (27 * x + s) 1 = rd m 80 0 s ∧ rd a 31 (27 * x + s) 2 = rd m 81 0 s ∧ rd a 31 (27 * x + s) 3 = rd m 82 0 s ∧ (lo ≤ rd m 81 0 s ∧ rd m 81 0 s < rd m 57 0 (rd m 80 0 s))) ∨
  ((24 ≤ rd m 80 0 s ∧ rd m 80 0 s < 24 + rd m 40 0 30) ∧ rd a 31 (27 * x + s) 0 = 2 ∧ rd a 31 (27 * x + s) 1 = rd m 80 0 s - 24 ∧ rd a 31 (27 * x + s) 2 = rd m 81 0 s ∧ rd a 31 (27 * x + s) 3 = rd m 82 0 s ∧ (lo ≤ rd m 81 0 s ∧ rd m 81 0 s < rd m 57 0 (rd m 80 0 s)) ∧ rd m 75 0 (rd m 80 0 s - 24) < 0)
def wR (a m : Mm) (x t : Int) : Prop :=
  (rd m 83 0 t = 0 ∧ rd a 31 (27 * x + 3 + t) 0 = 0) ∨
  (t < rd m 40 0 25 ∧ 0 < rd m 83 0 t ∧ rd m 83 0 t < rd m 57 0 t ∧ rd a 31 (27 * x + 3 + t) 0 = 1 ∧ rd a 31 (27 * x + 3 + t) 1 = t ∧ rd a 31 (27 * x + 3 + t) 2 = rd m 83 0 t ∧ rd a 31 (27 * x + 3 + t) 3 = rd m 84 0 t ∧ rd a 31 (27 * x + 3 + t) 4 = rd m 85 0 t)
def dsR (m : Mm) : Prop := ∀ s s', 0 ≤ s → s < 3 → 0 ≤ s' → s' < 3 → s ≠ s' → 24 ≤ rd m 80 0 s → rd m 80 0 s ≠ rd m 80 0 s'
def daR (a m : Mm) (d : Int) : Prop := rd a 28 0 (d * 7) = (if rd m 93 0 d ≤ 23 then 1 else 2) ∧ rd a 28 0 (d * 7 + 1) = (if rd m 93 0 d ≤ 23 then rd m 93 0 d else rd m 93 0 d - 24) ∧ rd a 28 0 (d * 7 + 2) = rd m 94 0 d ∧ rd a 28 0 (d * 7 + 3) = rd m 95 0 d ∧ rd a 28 0 (d * 7 + 4) = rd m 96 0 d ∧ rd a 28 0 (d * 7 + 5) = rd m 97 0 d ∧ rd a 28 0 (d * 7 + 6) = rd m 98 0 d ∧ 0 ≤ rd m 93 0 d ∧ rd m 93 0 d < 34 ∧ (rd m 93 0 d ≤ 23 → rd m 93 0 d < rd m 40 0 25) ∧ (0 ≤ rd m 95 0 d ∧ rd m 95 0 d < 720)
def xR (a m : Mm) : Prop := (∀ g, 0 ≤ g → g < 4 → rd a 32 0 g = rd m 77 0 g) ∧ (∀ s, 0 ≤ s → s < 3 → rd a 33 0 s = rd m 78 0 s ∧ rd a 34 0 s = rd m 79 0 s) ∧ rd a 27 0 1 = rd m 40 0 58 ∧ (0 ≤ rd m 40 0 58 ∧ rd m 40 0 58 ≤ 100) ∧ (∀ d, 0 ≤ d → d < rd m 40 0 58 → daR a m d)
/-- what the course adds up: live alone, or of a replay -/
def zR (a m : Mm) (x : Int) : Prop := rd m 40 0 50 = x ∧ (x = 1 → rd a 26 1 9 = rd m 40 0 51) ∧ (x = 0 → xR a m)
/-- the course, at a slot's begin (lo = 1 for each site), or at site s9 in mid-slot -/
def CRv (lo s9 : Int) (a m : Mm) (x : Int) : Prop := bkR a m (30 + x) ∧ (∀ s, 0 ≤ s → s < 3 → ¬ s = s9 → vR 1 a m x s) ∧ vR lo a m x s9 ∧ (∀ t, 0 ≤ t → t < 24 → wR a m x t) ∧ dsR m ∧ zR a m x
def CR (a m : Mm) (x : Int) : Prop := bkR a m (30 + x) ∧ (∀ s, 0 ≤ s → s < 3 → vR 1 a m x s) ∧ (∀ t, 0 ≤ t → t < 24 → wR a m x t) ∧ dsR m ∧ zR a m x
theorem vR_lo {lo lo' : Int} {a m : Mm} {x s : Int} (h : vR lo a m x s) (hl : lo' ≤ lo) : vR lo' a m x s := by
  rcases h with h | ⟨h1, h2, h3, h4, h5, h6, h7⟩ | ⟨h1, h2, h3, h4, h5, ⟨h6, h7⟩, h8⟩
  · exact Or.inl h
  · exact Or.inr (Or.inl ⟨h1, h2, h3, h4, h5, by omega, h7⟩)
  · exact Or.inr (Or.inr ⟨h1, h2, h3, h4, h5, ⟨by omega, h7⟩, h8⟩)
theorem CR_v {a m : Mm} {x s9 lo : Int} (h : CR a m x) (s0 : 0 ≤ s9) (s1 : s9 < 3) (hl : lo ≤ 1) : CRv lo s9 a m x :=
  ⟨h.1, fun s q0 q1 _ => h.2.1 s q0 q1, vR_lo (h.2.1 s9 s0 s1) hl, h.2.2⟩
theorem CRv_R {a m : Mm} {x s9 : Int} (h : CRv 1 s9 a m x) : CR a m x :=
  ⟨h.1, fun s q0 q1 => by
    by_cases q : s = s9
    · rw [q]; exact h.2.2.1
    · exact h.2.1 s q0 q1 q, h.2.2.2⟩
theorem bkR_of {a m a' m' : Mm} {b : Int} (h : bkR a m b) (h1 : ∀ (k : Nat) (j : Int), 21 ≤ k → k ≤ 25 → rd a' k b j = rd a k b j) (h2 : ∀ (k : Nat) (j : Int), 72 ≤ k → k ≤ 76 → rd m' k 0 j = rd m k 0 j) : bkR a' m' b := by
  unfold bkR at h ⊢
  simp only [h1 21 _ (by decide) (by decide), h1 22 _ (by decide) (by decide), h1 23 _ (by decide) (by decide), h1 24 _ (by decide) (by decide), h1 25 _ (by decide) (by decide), h2 72 _ (by decide) (by decide), h2 73 _ (by decide) (by decide), h2 74 _ (by decide) (by decide), h2 75 _ (by decide) (by decide), h2 76 _ (by decide) (by decide)]
  exact h
theorem vR_of {a m a' m' : Mm} {lo x s : Int} (h : vR lo a m x s) (h1 : ∀ j, 0 ≤ j → j ≤ 3 → rd a' 31 (27 * x + s) j = rd a 31 (27 * x + s) j) (h80 : rd m' 80 0 s = rd m 80 0 s) (h81 : rd m' 81 0 s = rd m 81 0 s) (h82 : rd m' 82 0 s = rd m 82 0 s) (h57 : ∀ t, rd m' 57 0 t = rd m 57 0 t) (h75 : 24 ≤ rd m 80 0 s → rd m 75 0 (rd m 80 0 s - 24) < 0 → rd m' 75 0 (rd m 80 0 s - 24) < 0) (h25 : rd m' 40 0 25 = rd m 40 0 25) (h30 : rd m' 40 0 30 = rd m 40 0 30) : vR lo a' m' x s := by
  unfold vR at h ⊢
  rw [h1 0 (by decide) (by decide), h1 1 (by decide) (by decide), h1 2 (by decide) (by decide), h1 3 (by decide) (by decide), h80, h81, h82, h57, h25, h30]
  rcases h with h | h | ⟨g1, g2, g3, g4, g5, g6, g7⟩
  · exact Or.inl h
  · exact Or.inr (Or.inl h)
  · exact Or.inr (Or.inr ⟨g1, g2, g3, g4, g5, g6, h75 g1.1 g7⟩)
theorem wR_of {a m a' m' : Mm} {x t : Int} (h : wR a m x t) (h1 : ∀ j, rd a' 31 (27 * x + 3 + t) j = rd a 31 (27 * x + 3 + t) j) (h83 : rd m' 83 0 t = rd m 83 0 t) (h84 : rd m' 84 0 t = rd m 84 0 t) (h85 : rd m' 85 0 t = rd m 85 0 t) (h57 : rd m' 57 0 t = rd m 57 0 t) (h25 : rd m' 40 0 25 = rd m 40 0 25) : wR a' m' x t := by
  unfold wR at h ⊢
  rw [h1, h1, h1, h1, h1, h83, h84, h85, h57, h25]
  exact h
theorem dsR_of {m m' : Mm} (h : dsR m) (h80 : ∀ s, rd m' 80 0 s = rd m 80 0 s) : dsR m' := by
  unfold dsR at h ⊢
  simp only [h80]
  exact h
theorem daR_of {a m a' m' : Mm} {d : Int} (h : daR a m d) (h1 : ∀ j, 0 ≤ j → j < 7 → rd a' 28 0 (d * 7 + j) = rd a 28 0 (d * 7 + j)) (h2 : ∀ k : Nat, 93 ≤ k → k ≤ 98 → rd m' k 0 d = rd m k 0 d) (h25 : rd m' 40 0 25 = rd m 40 0 25) : daR a' m' d := by
  have e0 := h1 0 (by decide) (by decide)
  rw [Int.add_zero] at e0
  unfold daR at h ⊢
  rw [e0, h1 1 (by decide) (by decide), h1 2 (by decide) (by decide), h1 3 (by decide) (by decide), h1 4 (by decide) (by decide), h1 5 (by decide) (by decide), h1 6 (by decide) (by decide), h2 93 (by decide) (by decide), h2 94 (by decide) (by decide), h2 95 (by decide) (by decide), h2 96 (by decide) (by decide), h2 97 (by decide) (by decide), h2 98 (by decide) (by decide), h25]
  exact h
theorem xR_of {a m a' m' : Mm} (h : xR a m) (h1 : ∀ (k : Nat) (j : Int), (k = 27 ∨ k = 28 ∨ k = 32 ∨ k = 33 ∨ k = 34) → rd a' k 0 j = rd a k 0 j) (h2 : ∀ (k : Nat) (j : Int), (k = 77 ∨ k = 78 ∨ k = 79 ∨ (93 ≤ k ∧ k ≤ 98) ∨ (k = 40 ∧ (j = 58 ∨ j = 25))) → rd m' k 0 j = rd m k 0 j) : xR a' m' := by
  obtain ⟨g1, g2, g3, g4, g5⟩ := h
  refine ⟨fun g q0 q1 => ?_, fun s q0 q1 => ?_, ?_, ?_, fun d q0 q1 => ?_⟩
  · rw [h1 32 _ (by decide), h2 77 _ (Or.inl rfl)]; exact g1 g q0 q1
  · rw [h1 33 _ (by decide), h1 34 _ (by decide), h2 78 _ (Or.inr (Or.inl rfl)), h2 79 _ (Or.inr (Or.inr (Or.inl rfl)))]; exact g2 s q0 q1
  · rw [h1 27 _ (by decide), h2 40 58 (by decide)]; exact g3
  · rw [h2 40 58 (by decide)]; exact g4
  · rw [h2 40 58 (by decide)] at q1
    exact daR_of (g5 d q0 q1) (fun j _ _ => h1 28 _ (by decide)) (fun k k0 k1 => h2 k _ (by omega)) (h2 40 25 (by decide))
theorem zR_of {a m a' m' : Mm} {x : Int} (h : zR a m x) (h1 : ∀ (k : Nat) (j : Int), (k = 27 ∨ k = 28 ∨ k = 32 ∨ k = 33 ∨ k = 34) → rd a' k 0 j = rd a k 0 j) (h9 : rd a' 26 1 9 = rd a 26 1 9) (h2 : ∀ (k : Nat) (j : Int), (k = 77 ∨ k = 78 ∨ k = 79 ∨ (93 ≤ k ∧ k ≤ 98) ∨ (k = 40 ∧ (j = 58 ∨ j = 25 ∨ j = 50 ∨ j = 51))) → rd m' k 0 j = rd m k 0 j) : zR a' m' x := by
  obtain ⟨g1, g2, g3⟩ := h
  refine ⟨?_, fun q => ?_, fun q => xR_of (g3 q) h1 (fun k j hk => h2 k j (by omega))⟩
  · rw [h2 40 50 (by decide)]; exact g1
  · rw [h9, h2 40 51 (by decide)]; exact g2 q
theorem mtC_of {m m' : Mm} (h : ∀ j, rd m' 46 0 j = rd m 46 0 j) (s n : Int) : mtC m' s n = mtC m s n := by
  unfold mtC mtT
  simp only [h]
theorem SK_of {a m a' m' : Mm} (h : SK a m) (h1 : ∀ (k : Nat) (i j : Int), (k = 5 ∧ j = 5) ∨ (11 ≤ k ∧ k ≤ 16) → rd a' k i j = rd a k i j) (h2 : ∀ (k : Nat) (j : Int), (k = 40 ∧ j = 2) ∨ (41 ≤ k ∧ k ≤ 47) → rd m' k 0 j = rd m k 0 j) : SK a' m' := by
  unfold SK at h ⊢
  simp only [h1 11 _ _ (Or.inr (by decide)), h1 12 _ _ (Or.inr (by decide)), h1 13 _ _ (Or.inr (by decide)), h1 14 _ _ (Or.inr (by decide)), h1 15 _ _ (Or.inr (by decide)), h1 16 _ _ (Or.inr (by decide)), h1 5 _ 5 (Or.inl (by decide)), h2 41 _ (Or.inr (by decide)), h2 42 _ (Or.inr (by decide)), h2 44 _ (Or.inr (by decide)), h2 45 _ (Or.inr (by decide)), h2 46 _ (Or.inr (by decide)), h2 47 _ (Or.inr (by decide)), h2 40 2 (Or.inl (by decide)), mtC_of (fun j => h2 46 j (Or.inr (by decide)))]
  exact h
theorem TG_of {a m a' m' : Mm} (h : TG a m) (h1 : ∀ (k : Nat) (i j : Int), (k = 5 ∧ (j = 6 ∨ j = 7 ∨ j = 8)) ∨ k = 7 ∨ (17 ≤ k ∧ k ≤ 19) → rd a' k i j = rd a k i j) (h2 : ∀ (k : Nat) (j : Int), (k = 40 ∧ (j = 12 ∨ j = 25 ∨ j = 30)) ∨ (48 ≤ k ∧ k ≤ 70) → rd m' k 0 j = rd m k 0 j) : TG a' m' := by
  have ea : ∀ k i t, (k = 18 ∨ k = 19) → aimR a m k i t → aimR a' m' k i t := by
    intro k i t hk hr
    unfold aimR at hr ⊢
    rw [h1 k i 1 (by omega), h1 k i 2 (by omega), h1 k i 3 (by omega), h1 k i 4 (by omega), h1 k i 5 (by omega), h1 k i 6 (by omega), h1 k i 7 (by omega), h2 55 _ (Or.inr (by decide)), h2 56 _ (Or.inr (by decide)), h2 57 _ (Or.inr (by decide)), h2 58 _ (Or.inr (by decide)), h2 59 _ (Or.inr (by decide)), h2 60 _ (Or.inr (by decide)), h2 61 _ (Or.inr (by decide))]
    exact hr
  obtain ⟨g1, g2, g3, g4, g5, g6, g7⟩ := h
  refine ⟨?_, fun g q0 q1 => ?_, fun q q0 q1 => ?_, fun t q0 q1 => ?_, fun i q0 q1 => ?_, fun i q0 q1 => ?_, fun t q0 q1 => ?_⟩
  · rw [h1 5 0 6 (by omega), h1 5 0 7 (by omega), h1 5 0 8 (by omega), h2 40 12 (by omega), h2 40 25 (by omega), h2 40 30 (by omega)]; exact g1
  · rw [h1 7 _ _ (by omega), h2 48 _ (Or.inr (by decide))]; exact g2 g q0 q1
  · rw [h1 17 _ _ (by omega), h1 17 _ _ (by omega), h1 17 _ _ (by omega), h1 17 _ _ (by omega), h2 49 _ (Or.inr (by decide)), h2 50 _ (Or.inr (by decide)), h2 51 _ (Or.inr (by decide)), h2 52 _ (Or.inr (by decide))]; exact g3 q q0 q1
  · rw [h2 40 25 (by omega)] at q1
    obtain ⟨⟨f1, f2⟩, f3⟩ := g4 t q0 q1
    refine ⟨⟨ea _ _ _ (Or.inl rfl) f1, ?_⟩, ?_⟩
    · rw [h1 18 _ _ (by omega), h1 18 _ _ (by omega), h1 18 _ _ (by omega), h1 18 _ _ (by omega), h1 18 _ _ (by omega), h1 18 _ _ (by omega), h1 18 _ _ (by omega), h1 18 _ _ (by omega), h1 18 _ _ (by omega), h2 54 _ (Or.inr (by decide)), h2 49 _ (Or.inr (by decide)), h2 51 _ (Or.inr (by decide)), h2 62 _ (Or.inr (by decide)), h2 63 _ (Or.inr (by decide)), h2 64 _ (Or.inr (by decide)), h2 65 _ (Or.inr (by decide))]; exact f2
    · rw [h2 54 _ (Or.inr (by decide)), h2 40 12 (by omega)]; exact f3
  · rw [h2 40 30 (by omega)] at q1
    obtain ⟨f1, f2⟩ := g5 i q0 q1
    refine ⟨ea _ _ _ (Or.inr rfl) f1, ?_⟩
    rw [h1 19 _ _ (by omega), h1 19 _ _ (by omega), h1 19 _ _ (by omega), h1 19 _ _ (by omega), h2 54 _ (Or.inr (by decide)), h2 67 _ (Or.inr (by decide)), h2 68 _ (Or.inr (by decide)), h2 69 _ (Or.inr (by decide)), h2 70 _ (Or.inr (by decide))]; exact f2
  · rw [h1 19 _ _ (by omega), h1 19 _ _ (by omega), h1 19 _ _ (by omega), h1 19 _ _ (by omega), h2 59 _ (Or.inr (by decide)), h2 60 _ (Or.inr (by decide)), h2 61 _ (Or.inr (by decide))]; exact g6 i q0 q1
  · rw [h2 40 25 (by omega)] at q0
    rw [h1 18 _ _ (by omega)]; exact g7 t q0 q1
theorem PR_of {a m a' m' : Mm} (h : PR a m) (h1 : ∀ (k : Nat) (i j : Int), k < 20 → rd a' k i j = rd a k i j) (h2 : ∀ (k : Nat) (i j : Int), (k = 40 ∧ (j = 2 ∨ j = 12 ∨ j = 25 ∨ j = 30)) ∨ (41 ≤ k ∧ k ≤ 70) → rd m' k i j = rd m k i j) : PR a' m' :=
  ⟨SK_of h.1 (fun k i j hk => h1 k i j (by omega)) (fun k j hk => h2 k 0 j (by omega)), TG_of h.2.1 (fun k i j hk => h1 k i j (by omega)) (fun k j hk => h2 k 0 j (by omega)), IM_of h.2.2 (fun k i j hk => h2 k i j (by omega))⟩
