/-! ===== class and model side by side, XIX: mount; proposals ===== -/
theorem fdown_spec (P : Int → Prop) : ∀ n : Nat, (fdown P n = -1 ∧ ∀ z, 0 ≤ z → z < (n : Int) → ¬ P z) ∨ ((0 ≤ fdown P n ∧ fdown P n < n) ∧ P (fdown P n) ∧ ∀ z, fdown P n < z → z < (n : Int) → ¬ P z)
  | 0 => Or.inl ⟨rfl, fun z z0 z1 => by omega⟩
  | n + 1 => by
    rw [fdown_s]
    by_cases q : P (n : Int)
    · rw [pif_t q]; exact Or.inr ⟨by omega, q, fun z z0 z1 => by omega⟩
    · rw [pif_f q]
      rcases fdown_spec P n with ⟨h1, h2⟩ | ⟨h1, h2, h3⟩
      · refine Or.inl ⟨h1, fun z z0 z1 hz => ?_⟩
        by_cases e : z = n
        · rw [e] at hz; exact q hz
        · exact h2 z z0 (by omega) hz
      · refine Or.inr ⟨by omega, h2, fun z z0 z1 hz => ?_⟩
        by_cases e : z = n
        · rw [e] at hz; exact q hz
        · exact h3 z z0 (by omega) hz
theorem fdown_is {P : Int → Prop} {n : Nat} {r : Int} (r0 : 0 ≤ r) (r1 : r < n) (hr : P r) (h : ∀ z, r < z → z < (n : Int) → ¬ P z) : fdown P n = r := by
  rcases fdown_spec P n with ⟨h1, h2⟩ | ⟨h1, h2, h3⟩
  · exact absurd hr (h2 r r0 r1)
  · rcases Int.lt_trichotomy (fdown P n) r with c | c | c
    · exact absurd hr (h3 r c r1)
    · exact c
    · exact absurd h2 (h _ c h1.2)
theorem fdown_no {P : Int → Prop} {n : Nat} (h : ∀ z, 0 ≤ z → z < (n : Int) → ¬ P z) : fdown P n = -1 := by
  rcases fdown_spec P n with ⟨h1, h2⟩ | ⟨h1, h2, h3⟩
  · exact h1
  · exact absurd h2 (h _ h1.1 h1.2)
theorem ufL_o (s c : Int) (k : Nat) (i z : Int) : ∀ (q : Nat) (j : Int) (a : Mm), (k ≠ 14 ∨ i ≠ s ∨ z < j) → rd (ufL s c q j a) k i z = rd a k i z
  | 0, _, _, _ => rfl
  | q + 1, j, a, h => by
    unfold ufL
    by_cases e : rd a 15 s j = 0
    · rw [pif_t e, ufL_o s c k i z q (j + 1) _ (by omega), rd_st, if_neg (by omega)]
    · rw [pif_f e]
theorem ufL_r (s c : Int) : ∀ (q : Nat) (j : Int) (a : Mm) (z : Int), j ≤ z → z < j + q → rd (ufL s c q j a) 14 s z = pif (∀ y, j ≤ y → y ≤ z → rd a 15 s y = 0) (wr c) (rd a 14 s z)
  | 0, j, a, z, h0, h1 => by omega
  | q + 1, j, a, z, h0, h1 => by
    unfold ufL
    by_cases e : rd a 15 s j = 0
    · rw [pif_t e]
      by_cases ez : z = j
      · rw [ufL_o _ _ _ _ _ _ _ _ (by omega), rd_st, if_pos ⟨rfl, rfl, ez⟩, wr_wr, pif_t (fun y y0 y1 => by rw [show y = j by omega]; exact e)]
      · rw [ufL_r s c q (j + 1) _ z (by omega) (by omega), rd_st, if_neg (by omega)]
        simp only [show ∀ y, rd (st a 14 s j (wr c)) 15 s y = rd a 15 s y from fun y => rd_st_ne (by decide)]
        by_cases q2 : ∀ y, j + 1 ≤ y → y ≤ z → rd a 15 s y = 0
        · rw [pif_t q2, pif_t (fun y y0 y1 => by
            by_cases ey : y = j
            · rw [ey]; exact e
            · exact q2 y (by omega) y1)]
        · rw [pif_f q2, pif_f (fun c => q2 (fun y y0 y1 => c y (by omega) y1))]
    · rw [pif_f e, pif_f (fun c => e (c j (by omega) h0))]
theorem tell_mount {a m : Mm} (h : FU a m) {s n c : Int} (s0 : 0 ≤ s) (s1 : s < 3) (n0 : 0 ≤ n) (n1 : n < 30) (c0 : 0 ≤ c) (c1 : c < 3) : FU (ufC a s n c) (st m 46 0 (30 * s + n) (wr c)) := by
  have ra : ∀ (k : Nat) (i j : Int), k ≠ 14 → k ≠ 15 → rd (ufC a s n c) k i j = rd a k i j := fun k i j hk hk2 => by
    unfold ufC
    rw [ufL_o _ _ _ _ _ _ _ _ (Or.inl hk), rd_st_ne hk, rd_st_ne hk2]
  have rm : ∀ (k : Nat) (i j : Int), k ≠ 46 → rd (st m 46 0 (30 * s + n) (wr c)) k i j = rd m k i j := fun k i j hk => rd_st_ne hk
  have r15 : ∀ s' z, rd (ufC a s n c) 15 s' z = if s' = s ∧ z = n then 1 else rd a 15 s' z := fun s' z => by
    unfold ufC
    rw [ufL_o _ _ _ _ _ _ _ _ (Or.inl (by decide)), rd_st_ne (by decide), rd_st]
    by_cases e : s' = s ∧ z = n
    · rw [if_pos ⟨rfl, e⟩, if_pos e]; decide
    · rw [if_neg (fun q => e q.2), if_neg e]
  have r46 : ∀ z, rd (st m 46 0 (30 * s + n) (wr c)) 46 0 z = if z = 30 * s + n then c else rd m 46 0 z := fun z => by
    rw [rd_st, wr_wr, wr_of (by omega) (by omega)]
    by_cases e : z = 30 * s + n
    · rw [if_pos ⟨rfl, rfl, e⟩, if_pos e]
    · rw [if_neg (fun q => e q.2.2), if_neg e]
  refine FU_sky h ?_ (fun k i j _ hk => ra k i j (by omega) (by omega)) (fun k i j _ hk => rm k i j (by omega))
  obtain ⟨g1, g2, g3, g4, g5⟩ := h.1.1
  refine ⟨fun s' q0 q1 => ?_, ?_, fun s' y q0 q1 y0 y1 => ?_, fun s' n' q0 q1 z0 z1 => ?_, fun s' i n q0 q1 i0 i1 n0 n1 => ?_⟩
  · rw [ra 11 _ _ (by decide) (by decide), ra 11 _ _ (by decide) (by decide), rm 41 _ _ (by decide), rm 42 _ _ (by decide)]; exact g1 s' q0 q1
  · rw [ra 5 _ _ (by decide) (by decide), rm 40 _ _ (by decide)]; exact g2
  · rw [ra 12 _ _ (by decide) (by decide), ra 13 _ _ (by decide) (by decide), rm 44 _ _ (by decide), rm 45 _ _ (by decide)]; exact g3 s' y q0 q1 y0 y1
  · refine ⟨?_, ?_⟩
    · obtain ⟨f1, f2⟩ := g4 s' n' q0 q1 z0 z1
      have hN : ((n' + 1).toNat : Int) = n' + 1 := by omega
      by_cases es : s' = s
      · subst es
        have hP : ∀ z, (¬ rd (st m 46 0 (30 * s' + n) (wr c)) 46 0 (30 * s' + z) < 0) ↔ (z = n ∨ ¬ rd m 46 0 (30 * s' + z) < 0) := fun z => by
          rw [r46]
          by_cases e : z = n
          · rw [if_pos (by omega)]; omega
          · rw [if_neg (by omega)]; omega
        have hz : ∀ z, z ≠ n → rd (st m 46 0 (30 * s' + n) (wr c)) 46 0 (30 * s' + z) = rd m 46 0 (30 * s' + z) := fun z hz => by rw [r46, if_neg (by omega)]
        have hzn : rd (st m 46 0 (30 * s' + n) (wr c)) 46 0 (30 * s' + n) = c := by rw [r46, if_pos rfl]
        have e14 : rd (ufC a s' n c) 14 s' n' = pif (n ≤ n' ∧ ∀ y, n + 1 ≤ y → y ≤ n' → rd a 15 s' y = 0) c (rd a 14 s' n') := by
          unfold ufC
          have e15 : ∀ y, n + 1 ≤ y → rd (st (st a 15 s' n (wr 1 % 2)) 14 s' n (wr c)) 15 s' y = rd a 15 s' y := fun y hy => by rw [rd_st_ne (by decide), rd_st, if_neg (by omega)]
          rcases Int.lt_trichotomy n' n with g | g | g
          · rw [ufL_o _ _ _ _ _ _ _ _ (by omega), rd_st, if_neg (by omega), rd_st_ne (by decide), pif_f (by omega)]
          · rw [ufL_o _ _ _ _ _ _ _ _ (by omega), rd_st, if_pos ⟨rfl, rfl, g⟩, wr_wr, wr_of (by omega) (by omega), pif_t ⟨by omega, fun y y0 y1 => by omega⟩]
          · rw [ufL_r _ _ _ _ _ _ (by omega) (by omega), rd_st, if_neg (by omega), rd_st_ne (by decide)]
            have hc : wr c = c := wr_of (by omega) (by omega)
            by_cases q : ∀ y, n + 1 ≤ y → y ≤ n' → rd a 15 s' y = 0
            · rw [pif_t (fun y y0 y1 => (e15 y y0).trans (q y y0 y1)), pif_t ⟨by omega, q⟩]; exact hc
            · rw [pif_f (fun x => q (fun y y0 y1 => (e15 y y0).symm.trans (x y y0 y1))), pif_f (fun x => q x.2)]
        have h15 : ∀ y, 0 ≤ y → y < 30 → (rd a 15 s' y = 0 ↔ rd m 46 0 (30 * s' + y) < 0) := fun y y0 y1 => (g4 s' y s0 s1 y0 y1).2
        rw [e14, f1]
        unfold mtC mtT
        rcases fdown_spec (fun t => ¬ rd m 46 0 (30 * s' + t) < 0) (n' + 1).toNat with ⟨d1, d2⟩ | ⟨d1, d2, d3⟩
        · by_cases hn : n ≤ n'
          · rw [fdown_is (P := fun t => ¬ rd (st m 46 0 (30 * s' + n) (wr c)) 46 0 (30 * s' + t) < 0) (r := n) n0 (by omega) ((hP n).mpr (Or.inl rfl)) (fun z y0 y1 => fun x => by
              rcases (hP z).mp x with x | x
              · omega
              · exact d2 z (by omega) (by omega) x), pif_f (p := n < 0) (by omega), hzn, pif_t (p := n ≤ n' ∧ ∀ y, n + 1 ≤ y → y ≤ n' → rd a 15 s' y = 0) ⟨hn, fun y y0 y1 => (h15 y (by omega) (by omega)).mpr (Classical.not_not.mp (d2 y (by omega) (by omega)))⟩]
          · rw [fdown_no (P := fun t => ¬ rd (st m 46 0 (30 * s' + n) (wr c)) 46 0 (30 * s' + t) < 0) (fun z y0 y1 => fun x => by
              rcases (hP z).mp x with x | x
              · omega
              · exact d2 z y0 y1 x), pif_f (p := n ≤ n' ∧ ∀ y, n + 1 ≤ y → y ≤ n' → rd a 15 s' y = 0) (fun x => hn x.1), d1, pif_t (p := (-1 : Int) < 0) (by decide), pif_t (p := (-1 : Int) < 0) (by decide)]
        · obtain ⟨r, hr⟩ : ∃ r, fdown (fun t => ¬ rd m 46 0 (30 * s' + t) < 0) (n' + 1).toNat = r := ⟨_, rfl⟩
          rw [hr] at d1 d2 d3 ⊢
          by_cases hrn : n < r ∨ n' < n
          · rw [fdown_is (P := fun t => ¬ rd (st m 46 0 (30 * s' + n) (wr c)) 46 0 (30 * s' + t) < 0) (r := r) d1.1 d1.2 ((hP r).mpr (Or.inr d2)) (fun z y0 y1 => fun x => by
              rcases (hP z).mp x with x | x
              · omega
              · exact d3 z y0 y1 x), hz r (by omega), pif_f (p := n ≤ n' ∧ ∀ y, n + 1 ≤ y → y ≤ n' → rd a 15 s' y = 0) (fun x => by
              have hr2 : ¬ n' < n := by omega
              have := (h15 r (by omega) (by omega)).mp (x.2 r (by omega) (by omega))
              exact d2 this)]
          · rw [fdown_is (P := fun t => ¬ rd (st m 46 0 (30 * s' + n) (wr c)) 46 0 (30 * s' + t) < 0) (r := n) n0 (by omega) ((hP n).mpr (Or.inl rfl)) (fun z y0 y1 => fun x => by
              rcases (hP z).mp x with x | x
              · omega
              · exact d3 z (by omega) y1 x), pif_f (p := n < 0) (by omega), hzn, pif_t (p := n ≤ n' ∧ ∀ y, n + 1 ≤ y → y ≤ n' → rd a 15 s' y = 0) ⟨by omega, fun y y0 y1 => (h15 y (by omega) (by omega)).mpr (Classical.not_not.mp (d3 y (by omega) (by omega)))⟩]
      · have e1 : rd (ufC a s n c) 14 s' n' = rd a 14 s' n' := by
          unfold ufC
          rw [ufL_o _ _ _ _ _ _ _ _ (by omega), rd_st, if_neg (by omega), rd_st_ne (by decide)]
        rw [e1, f1]
        unfold mtC mtT
        have e2 : ∀ z, 0 ≤ z → z < 30 → rd (st m 46 0 (30 * s + n) (wr c)) 46 0 (30 * s' + z) = rd m 46 0 (30 * s' + z) := fun z y0 y1 => by rw [r46, if_neg (by omega)]
        have e3 : fdown (fun t => ¬ rd (st m 46 0 (30 * s + n) (wr c)) 46 0 (30 * s' + t) < 0) (n' + 1).toNat = fdown (fun t => ¬ rd m 46 0 (30 * s' + t) < 0) (n' + 1).toNat := fdown_congr _ (fun z y0 y1 => by rw [e2 z y0 (by omega)])
        rw [e3]
        have hrg := fdown_range (fun t => ¬ rd m 46 0 (30 * s' + t) < 0) (n' + 1).toNat
        by_cases q : fdown (fun t => ¬ rd m 46 0 (30 * s' + t) < 0) (n' + 1).toNat < 0
        · rw [pif_t q, pif_t q]
        · rw [pif_f q, pif_f q, e2 _ (by omega) (by omega)]
    · rw [r15, r46]
      by_cases e : s' = s ∧ n' = n
      · rw [if_pos e, if_pos (by omega)]; omega
      · rw [if_neg e, if_neg (by omega)]; exact (g4 s' n' q0 q1 z0 z1).2
  · rw [ra 16 _ _ (by decide) (by decide), rm 47 _ _ (by decide)]; exact g5 s' i n q0 q1 i0 i1 n0 n1
