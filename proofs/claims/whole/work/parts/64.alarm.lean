/-! ===== class and model side by side, IV: alerts begin ===== -/
theorem zR_of2 {a m a' m' : Mm} {x : Int} (h : zR a m x) (h1 : ∀ (k : Nat) (j : Int), (k = 27 ∨ k = 28) → rd a' k 0 j = rd a k 0 j) (h9 : rd a' 26 1 9 = rd a 26 1 9) (h2 : ∀ (k : Nat) (j : Int), ((93 ≤ k ∧ k ≤ 98) ∨ (k = 40 ∧ (j = 58 ∨ j = 25 ∨ j = 50 ∨ j = 51))) → rd m' k 0 j = rd m k 0 j)
    (h32 : x = 0 → (∀ g, 0 ≤ g → g < 4 → rd a 32 0 g = rd m 77 0 g) → ∀ g, 0 ≤ g → g < 4 → rd a' 32 0 g = rd m' 77 0 g)
    (h33 : x = 0 → (∀ s, 0 ≤ s → s < 3 → rd a 33 0 s = rd m 78 0 s ∧ rd a 34 0 s = rd m 79 0 s) → ∀ s, 0 ≤ s → s < 3 → rd a' 33 0 s = rd m' 78 0 s ∧ rd a' 34 0 s = rd m' 79 0 s) : zR a' m' x := by
  obtain ⟨g1, g2, g3⟩ := h
  refine ⟨?_, fun q => ?_, fun q => ?_⟩
  · rw [h2 40 50 (by decide)]; exact g1
  · rw [h9, h2 40 51 (by decide)]; exact g2 q
  · obtain ⟨f1, f2, f3, f4, f5⟩ := g3 q
    refine ⟨h32 q f1, h33 q f2, ?_, ?_, fun d q0 q1 => ?_⟩
    · rw [h1 27 _ (by decide), h2 40 58 (by decide)]; exact f3
    · rw [h2 40 58 (by decide)]; exact f4
    · rw [h2 40 58 (by decide)] at q1
      exact daR_of (f5 d q0 q1) (fun j _ _ => h1 28 _ (by decide)) (fun k k0 k1 => h2 k _ (Or.inl ⟨k0, k1⟩)) (h2 40 25 (by decide))
theorem lose_g {a m : Mm} {lo x s : Int} (hP : PR a m) (h : vR lo a m x s) : (rd m 80 0 s < 0 ↔ rd a 31 (27 * x + s) 0 = 0) ∧ (0 ≤ rd m 80 0 s → grpC a (27 * x + s) = grpM m (rd m 80 0 s) ∧ (0 ≤ grpM m (rd m 80 0 s) ∧ grpM m (rd m 80 0 s) < 4) ∧ rd a 31 (27 * x + s) 2 = rd m 81 0 s) := by
  have hI := hP.2.2
  rcases h with ⟨h1, h2, h3, h4⟩ | ⟨h1, h2, h3, h4, h5, h6⟩ | ⟨h1, h2, h3, h4, h5, h6⟩
  · exact ⟨by omega, fun q => by omega⟩
  · refine ⟨by omega, fun q => ⟨?_, grp_r hI h1.1 (by have := hI.2.1.2; omega), h4⟩⟩
    unfold grpC grpM
    rw [pif_t h2, h3, pif_t (by have := hI.2.1.2; omega)]
    exact (hP.2.1.2.2.2.1 _ h1.1 h1.2).1.2.2.1
  · refine ⟨by omega, fun q => ⟨?_, grp_r hI (by omega) (by have := hI.2.2.1.2; omega), h4⟩⟩
    unfold grpC grpM
    rw [pif_f (by omega), h3, pif_f (by omega)]
    have := (hP.2.1.2.2.2.2.1 _ (show 0 ≤ rd m 80 0 s - 24 by omega) (by omega)).2.1
    rwa [show 24 + (rd m 80 0 s - 24) = rd m 80 0 s by omega] at this
theorem lose_32 {a m : Mm} {lo s : Int} (hP : PR a m) (h : vR lo a m 0 s) (ho : ∀ g, 0 ≤ g → g < 4 → rd a 32 0 g = rd m 77 0 g) : ∀ g, 0 ≤ g → g < 4 → rd (loseC a 0 (27 * 0 + s)) 32 0 g = rd (pif (0 ≤ rd m 80 0 s) (mlsC m (rd m 80 0 s) (rd m 81 0 s)) m) 77 0 g := by
  intro g g0 g1
  obtain ⟨k1, k2⟩ := lose_g hP h
  unfold loseC
  by_cases q : rd m 80 0 s < 0
  · rw [pif_t (k1.mp q), pif_f (by omega)]; exact ho g g0 g1
  · obtain ⟨e1, e2, e3⟩ := k2 (by omega)
    rw [pif_f (fun c => q (k1.mpr c)), pif_t (by omega), rd_begin _ _ _ _ _ _ _ (by omega)]
    unfold mlsC
    rw [rd_st, rd_st, e1, e3, ho _ e2.1 e2.2]
    by_cases q2 : g = grpM m (rd m 80 0 s)
    · rw [if_pos ⟨rfl, rfl, q2⟩, if_pos ⟨rfl, rfl, q2⟩]
    · rw [if_neg (fun c => q2 c.2.2), if_neg (fun c => q2 c.2.2)]; exact ho g g0 g1
theorem obs2 {a m : Mm} {x i : Int} (hI : IM m) (h : ∀ s, 0 ≤ s → s < 3 → ∃ lo, vR lo a m x s) (i0 : 0 ≤ i) : obsC a x 2 i ↔ goP m (24 + i) := by
  have hc : rd m 40 0 25 ≤ 24 := hI.2.1.2
  have one : ∀ s, 0 ≤ s → s < 3 → ((rd a 31 (27 * x + s) 0 = 2 ∧ rd a 31 (27 * x + s) 1 = i) ↔ rd m 80 0 s = 24 + i) := fun s s0 s1 => by
    obtain ⟨lo, ⟨h1, h2, h3, h4⟩ | ⟨h1, h2, h3, h4, h5, h6⟩ | ⟨h1, h2, h3, h4, h5, h6⟩⟩ := h s s0 s1 <;> omega
  unfold obsC goP
  rw [one 0 (by decide) (by decide), one 1 (by decide) (by decide), one 2 (by decide) (by decide)]
theorem obs1 {a m : Mm} {x i : Int} (hI : IM m) (h : ∀ s, 0 ≤ s → s < 3 → ∃ lo, vR lo a m x s) (i0 : 0 ≤ i) (i1 : i < 24) : obsC a x 1 i ↔ goP m i := by
  have hc : rd m 40 0 25 ≤ 24 := hI.2.1.2
  have one : ∀ s, 0 ≤ s → s < 3 → ((rd a 31 (27 * x + s) 0 = 1 ∧ rd a 31 (27 * x + s) 1 = i) ↔ rd m 80 0 s = i) := fun s s0 s1 => by
    obtain ⟨lo, ⟨h1, h2, h3, h4⟩ | ⟨h1, h2, h3, h4, h5, h6⟩ | ⟨h1, h2, h3, h4, h5, h6⟩⟩ := h s s0 s1 <;> omega
  unfold obsC goP
  rw [one 0 (by decide) (by decide), one 1 (by decide) (by decide), one 2 (by decide) (by decide)]
theorem CRv_any {a m : Mm} {x s9 lo : Int} (h : CRv lo s9 a m x) : ∀ s, 0 ≤ s → s < 3 → ∃ lo, vR lo a m x s := fun s s0 s1 => by
  by_cases q : s = s9
  · rw [q]; exact ⟨_, h.2.2.1⟩
  · exact ⟨_, h.2.1 s s0 s1 q⟩
/-- the best of a walk upwards -/
theorem asc_spec (C : Int → Prop) (U : Int → Int) : ∀ (n : Nat) (i b u : Int), (srch (fun i _ u => u < U i ∧ C i) U n i b u = b ∧ ∀ z, i ≤ z → z < i + n → C z → U z ≤ u) ∨ ((i ≤ srch (fun i _ u => u < U i ∧ C i) U n i b u ∧ srch (fun i _ u => u < U i ∧ C i) U n i b u < i + n) ∧ C (srch (fun i _ u => u < U i ∧ C i) U n i b u) ∧ u < U (srch (fun i _ u => u < U i ∧ C i) U n i b u) ∧ (∀ z, i ≤ z → z < i + n → C z → U z ≤ U (srch (fun i _ u => u < U i ∧ C i) U n i b u)) ∧ (∀ z, i ≤ z → z < srch (fun i _ u => u < U i ∧ C i) U n i b u → C z → U z < U (srch (fun i _ u => u < U i ∧ C i) U n i b u)))
  | 0, i, b, u => Or.inl ⟨rfl, fun z z0 z1 => by omega⟩
  | n + 1, i, b, u => by
    unfold srch
    by_cases q : u < U i ∧ C i
    · rw [pif_t q]
      rcases asc_spec C U n (i + 1) i (U i) with ⟨h1, h2⟩ | ⟨h1, h2, h3, h4, h5⟩
      · right
        rw [h1]
        refine ⟨by omega, q.2, q.1, fun z z0 z1 hz => ?_, fun z z0 z1 => by omega⟩
        by_cases e : z = i
        · rw [e]; exact Int.le_refl _
        · exact h2 z (by omega) (by omega) hz
      · right
        refine ⟨by omega, h2, by omega, fun z z0 z1 hz => ?_, fun z z0 z1 hz => ?_⟩
        · by_cases e : z = i
          · rw [e]; omega
          · exact h4 z (by omega) (by omega) hz
        · by_cases e : z = i
          · rw [e]; exact h3
          · exact h5 z (by omega) z1 hz
    · rw [pif_f q]
      have hi : C i → U i ≤ u := fun c => by
        rcases Int.lt_or_le u (U i) with g | g
        · exact absurd ⟨g, c⟩ q
        · exact g
      rcases asc_spec C U n (i + 1) b u with ⟨h1, h2⟩ | ⟨h1, h2, h3, h4, h5⟩
      · left
        refine ⟨h1, fun z z0 z1 hz => ?_⟩
        by_cases e : z = i
        · rw [e] at hz ⊢; exact hi hz
        · exact h2 z (by omega) (by omega) hz
      · right
        refine ⟨by omega, h2, h3, fun z z0 z1 hz => ?_, fun z z0 z1 hz => ?_⟩
        · by_cases e : z = i
          · rw [e] at hz ⊢; have := hi hz; omega
          · exact h4 z (by omega) (by omega) hz
        · by_cases e : z = i
          · rw [e] at hz ⊢; have := hi hz; omega
          · exact h5 z (by omega) z1 hz
def dsc (r n : Int) (C : Int → Prop) (U : Int → Int) (k : Int) : Prop := (r = -1 ∧ ∀ z, k ≤ z → z < n → ¬ C z) ∨ ((k ≤ r ∧ r < n) ∧ C r ∧ (∀ z, k ≤ z → z < n → C z → U z ≤ U r) ∧ (∀ z, k ≤ z → z < r → C z → U z < U r))
/-- the best of the model's walk downwards -/
theorem alm_spec (m : Mm) (s n u : Int) (N : Int) : ∀ (k : Nat) (r : Int), (k : Int) ≤ N → dsc r N (almP m s n u) (fun z => rd m 67 0 z) k → dsc (almB m s n u k r) N (almP m s n u) (fun z => rd m 67 0 z) 0
  | 0, r, _, h => h
  | k + 1, r, hk, h => by
    unfold almB
    refine alm_spec m s n u N k _ (by omega) ?_
    unfold almQ
    rcases h with ⟨h1, h2⟩ | ⟨h1, h2, h3, h4⟩
    · by_cases q : almP m s n u (k : Int)
      · rw [pif_t ⟨q, by omega⟩]
        refine Or.inr ⟨by omega, q, fun z z0 z1 hz => ?_, fun z z0 z1 => by omega⟩
        by_cases e : z = k
        · rw [e]; exact Int.le_refl _
        · exact absurd hz (h2 z (by omega) z1)
      · rw [pif_f (fun c => q c.1)]
        refine Or.inl ⟨h1, fun z z0 z1 hz => ?_⟩
        by_cases e : z = k
        · rw [e] at hz; exact q hz
        · exact h2 z (by omega) z1 hz
    · by_cases q : almP m s n u (k : Int) ∧ rd m 67 0 r ≤ rd m 67 0 (k : Int)
      · rw [pif_t ⟨q.1, Or.inr q.2⟩]
        refine Or.inr ⟨by omega, q.1, fun z z0 z1 hz => ?_, fun z z0 z1 => by omega⟩
        by_cases e : z = k
        · rw [e]; exact Int.le_refl _
        · have := h3 z (by omega) z1 hz
          have q2 := q.2
          dsimp only at this ⊢
          omega
      · rw [pif_f (fun c => q ⟨c.1, by have := c.2; omega⟩)]
        have hk' : almP m s n u (k : Int) → rd m 67 0 (k : Int) < rd m 67 0 r := fun c => by
          rcases Int.lt_or_le (rd m 67 0 (k : Int)) (rd m 67 0 r) with g | g
          · exact g
          · exact absurd ⟨c, g⟩ q
        refine Or.inr ⟨by omega, h2, fun z z0 z1 hz => ?_, fun z z0 z1 hz => ?_⟩
        · by_cases e : z = k
          · rw [e] at hz ⊢; have := hk' hz; dsimp only; omega
          · exact h3 z (by omega) z1 hz
        · by_cases e : z = k
          · rw [e] at hz ⊢; exact hk' hz
          · exact h4 z (by omega) z1 hz
theorem srch_congr {P Q : Int → Int → Int → Prop} {U W : Int → Int} : ∀ (n : Nat) (i b u : Int), (∀ z b u, i ≤ z → z < i + n → (P z b u ↔ Q z b u)) → (∀ z, i ≤ z → z < i + n → U z = W z) → srch P U n i b u = srch Q W n i b u
  | 0, _, _, _, _, _ => rfl
  | n + 1, i, b, u, h, hU => by
    unfold srch
    rw [srch_congr n (i + 1) i (U i) (fun z b u z0 z1 => h z b u (by omega) (by omega)) (fun z z0 z1 => hU z (by omega) (by omega)), srch_congr n (i + 1) b u (fun z b u z0 z1 => h z b u (by omega) (by omega)) (fun z z0 z1 => hU z (by omega) (by omega)), hU i (by omega) (by omega)]
    have := h i b u (by omega) (by omega)
    by_cases q : P i b u
    · rw [pif_t q, pif_t (this.mp q)]
    · rw [pif_f q, pif_f (fun c => q (this.mpr c))]
theorem alP_iff {a m : Mm} {x s9 s n u lo i w : Int} (hP : PR a m) (hC : CRv lo s9 a m x) (hw : rd a 26 x 8 = 24 * n + u) (s0 : 0 ≤ s) (s1 : s < 3) (n0 : 0 ≤ n) (n1 : n < 30) (u0 : 0 ≤ u) (u1 : u < 24) (i0 : 0 ≤ i) (i1 : i < rd m 40 0 30) : alP a x s i w ↔ (w < rd m 67 0 i ∧ almP m s n u i) := by
  obtain ⟨ha, h0, h9, h9b, h10, h11, b68, b69, b70⟩ := hP.2.1.2.2.2.2.1 i i0 i1
  have hc := hP.2.2.2.2.1.2
  obtain ⟨-, hs⟩ := hC.1.2.1 i i0 (by omega)
  have hl := ha.2.2.2.2.2.2.2.2
  unfold alP almP
  rw [h9, h10, h11, hw, hs, obs2 hP.2.2 (CRv_any hC) i0, ha.2.2.1, sk_suit hP.1 ha s0 s1 n0 n1 u0 u1 (by omega)]
  refine and_congr_right fun _ => ?_
  constructor
  · rintro ⟨c1, c2, c3, c4, c5⟩
    have := c5.2.2.2.2.2.2.1
    exact ⟨c3, c4, by omega, by omega, by omega, c5⟩
  · rintro ⟨c3, c4, e1, e2, e3, c5⟩
    exact ⟨by omega, by omega, c3, c4, c5⟩
