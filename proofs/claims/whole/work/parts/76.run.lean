/-! ===== class and model side by side, XV: all together; run ===== -/
theorem CR_of {a m a' m' : Mm} {x : Int} (h : CR a m x) (ha : ∀ (k : Nat) (i j : Int), (21 ≤ k ∧ k ≤ 25 ∧ i = 30 + x) ∨ (k = 31 ∧ 27 * x ≤ i ∧ i < 27 * x + 27) ∨ ((k = 27 ∨ k = 28 ∨ k = 32 ∨ k = 33 ∨ k = 34) ∧ i = x) → rd a' k i j = rd a k i j) (h9 : x = 1 → rd a' 26 1 9 = rd a 26 1 9)
    (hm : ∀ (k : Nat) (j : Int), (72 ≤ k ∧ k ≤ 85) ∨ (93 ≤ k ∧ k ≤ 98) ∨ k = 57 ∨ (k = 40 ∧ (j = 25 ∨ j = 30 ∨ j = 50 ∨ j = 58)) → rd m' k 0 j = rd m k 0 j) (h51 : x = 1 → rd m' 40 0 51 = rd m 40 0 51) : CR a' m' x := by
  obtain ⟨h1, h2, h4, h5, z1, z2, z3⟩ := h
  refine ⟨bkR_of h1 (fun k j k0 k1 => ha k _ j (by omega)) (fun k j k0 k1 => hm k j (by omega)), fun s g0 g1 => vR_of (h2 s g0 g1) (fun j _ _ => ha 31 _ j (by omega)) (hm 80 s (by omega)) (hm 81 s (by omega)) (hm 82 s (by omega)) (fun t => hm 57 t (by omega)) (fun _ g => by rw [hm 75 _ (by omega)]; exact g) (hm 40 25 (by omega)) (hm 40 30 (by omega)), fun t t0 t1 => wR_of (h4 t t0 t1) (fun j => ha 31 _ j (by omega)) (hm 83 t (by omega)) (hm 84 t (by omega)) (hm 85 t (by omega)) (hm 57 t (by omega)) (hm 40 25 (by omega)), dsR_of h5 (fun s => hm 80 s (by omega)), ?_, fun q => ?_, fun q => ?_⟩
  · rw [hm 40 50 (by omega)]; exact z1
  · rw [h9 q, h51 q]; exact z2 q
  · exact xR_of (z3 q) (fun k j hk => ha k 0 j (by omega)) (fun k j hk => hm k j (by omega))
def FU (a m : Mm) : Prop := PR a m ∧ CR a m 0 ∧ (∀ n, 0 ≤ n → 24 * n < rd m 40 0 45 → SRn a m n) ∧ LB m (rd m 40 0 45) ∧ idR a 1 ∧ rd a 26 0 8 = rd m 40 0 45 ∧ (0 ≤ rd m 40 0 45 ∧ rd m 40 0 45 ≤ 720) ∧ IA a ∧ 0 ≤ rd a 27 1 1
theorem CR_MV {a m : Mm} {x : Int} (hP : PR a m) (h : CR a m x) (hd : 0 ≤ rd m 40 0 58) : MV m := by
  have hT : rd m 40 0 25 ≤ 24 := hP.2.2.2.1.2
  have hA : rd m 40 0 30 ≤ 10 := hP.2.2.2.2.1.2
  refine ⟨hP.2.2, fun u u0 u1 => ?_, hd⟩
  rcases h.2.1 u u0 u1 with ⟨g1, g2⟩ | ⟨g1, g2⟩ | ⟨g1, g2⟩ <;> omega
theorem FU_MV {a m : Mm} (h : FU a m) : MV m := CR_MV h.1 h.2.1 (h.2.1.2.2.2.2.2.2 rfl).2.2.2.1.1
theorem CR_IC {a m : Mm} {x : Int} (hP : PR a m) (h : CR a m x) (h27 : 0 ≤ rd a 27 x 1) : IC a x := by
  have hT : rd m 40 0 25 ≤ 24 := hP.2.2.2.1.2
  have hA : rd m 40 0 30 ≤ 10 := hP.2.2.2.2.1.2
  refine ⟨fun u u0 u1 => ?_, fun t t0 t1 => ?_, h27⟩
  · rcases h.2.1 u u0 u1 with ⟨g1, g2, g3⟩ | ⟨g1, g2, g3, g4, g5, g6⟩ | ⟨g1, g2, g3, g4, g5, g6⟩
    · exact ⟨fun c => by omega, fun c _ => by omega⟩
    · refine ⟨fun _ => ?_, fun _ c => by omega⟩
      have e := (hP.2.1.2.2.2.1 _ g1.1 g1.2).1.1.2.2.1
      rw [g3, g4, e]; omega
    · exact ⟨fun c => by omega, fun _ _ => by omega⟩
  · rcases h.2.2.1 t t0 t1 with ⟨w1, w2⟩ | ⟨w1, w2, w3, w4, w5, w6, w7, w8⟩
    · exact Or.inl w2
    · have e := (hP.2.1.2.2.2.1 t t0 w1).1.1.2.2.1
      right
      rw [w4, w5, w6, e]; omega
theorem id_IC {a : Mm} {x : Int} (h : idR a x) (h27 : 0 ≤ rd a 27 x 1) : IC a x :=
  ⟨fun u u0 u1 => ⟨fun c => by have := (h.1 u u0 u1).1; omega, fun c _ => by have := (h.1 u u0 u1).1; omega⟩, fun t t0 t1 => Or.inl (h.2 t t0 t1), h27⟩
theorem FU_IC {a m : Mm} (h : FU a m) : IC a 0 ∧ IC a 1 := by
  have hx := h.2.1.2.2.2.2.2.2 rfl
  exact ⟨CR_IC h.1 h.2.1 (by rw [hx.2.2.1]; exact hx.2.2.2.1.1), id_IC h.2.2.2.2.1 h.2.2.2.2.2.2.2.2⟩
theorem run_step {a m : Mm} (h : FU a m) (hw : rd m 40 0 45 < 720) : FU (runS a) (mruS m) ∧ rd (mruS m) 40 0 45 = rd m 40 0 45 + 1 := by
  have hMV := FU_MV h
  obtain ⟨hP, hC, hS, hL, hid, h8, hW, hI, h27⟩ := h
  obtain ⟨w, hw'⟩ : ∃ w, rd m 40 0 45 = w := ⟨_, rfl⟩
  rw [hw'] at hS hL h8 hW hw
  obtain ⟨n, u, n0, n1, u0, u1, ew⟩ : ∃ n u : Int, 0 ≤ n ∧ n < 30 ∧ 0 ≤ u ∧ u < 24 ∧ w = 24 * n + u := ⟨w / 24, w % 24, by omega, by omega, by omega, by omega, by omega⟩
  obtain ⟨e1, e2, -, -⟩ := t_div n0 n1 u0 u1
  have ed : jdiv w 24 = n := by rw [ew]; exact e1
  have er : jrem w 24 = u := by rw [ew]; exact e2
  -- the note
  obtain ⟨a1, m1, ha1, hm1, hP1, hC1, hS1, hL1, hid1, h81, hI1, h271⟩ : ∃ a1 m1, runB a = a1 ∧ mruB m = m1 ∧ PR a1 m1 ∧ CR a1 m1 0 ∧ (∀ q, 0 ≤ q → q ≤ n → SRn a1 m1 q) ∧ LB m1 w ∧ idR a1 1 ∧ rd a1 26 0 8 = w ∧ IA a1 ∧ 0 ≤ rd a1 27 1 1 := by
    unfold runB mruB
    rw [h8, hw', er, ed]
    by_cases q : u = 0
    · rw [pif_t q, pif_t q]
      have ra : ∀ (k : Nat) (i j : Int), i ≠ n ∨ k < 21 ∨ 25 < k → rd (cfC a (30 + 0) n) k i j = rd a k i j := fun k i j hk => cf_o _ _ _ (by omega) _ _ _ hk
      have rm : ∀ (k : Nat) (i j : Int), k < 87 ∨ 89 < k → rd (noM m n) k i j = rd m k i j := fun k i j hk => rd_noM _ _ _ _ _ hk
      refine ⟨_, _, rfl, rfl, PR_of hP (fun k i j hk => ra k i j (by omega)) (fun k i j hk => rm k i j (by omega)), CR_of hC (fun k i j hk => ra k i j (by omega)) (fun c => by omega) (fun k j hk => rm k 0 j (by omega)) (fun c => by omega), fun q q0 q1 => ?_, ?_, ?_, ?_, IA_cf hI _ _, ?_⟩
      · by_cases e : q = n
        · rw [e]
          refine note_self hC.1 ?_ n0 n1
          rw [show 24 * n = w by omega]; exact hL
        · exact note_oth (hS q q0 (by omega)) e n0 n1
      · unfold LB
        simp only [rm 74 0 _ (by omega), rm 75 0 _ (by omega)]
        exact hL
      · unfold idR
        simp only [show ∀ i j, rd (cfC a (30 + 0) n) 31 i j = rd a 31 i j from fun i j => ra 31 i j (by omega)]
        exact hid
      · rw [ra 26 _ _ (by omega)]; exact h8
      · rw [ra 27 _ _ (by omega)]; exact h27
    · rw [pif_f q, pif_f q]
      exact ⟨_, _, rfl, rfl, hP, hC, fun q q0 q1 => hS q q0 (by omega), hL, hid, h8, hI, h27⟩
  have hw1 : rd a1 26 0 8 = 24 * n + u := h81.trans ew
  obtain ⟨c2, p2, w2, -⟩ := slot_step hP1 (Or.inl rfl) hC1 hw1 n0 n1 u0 u1
  have hE := EF_slot hP1 (Or.inl rfl) hC1 hw1 n0 n1 u0 u1
  have fr := fun (k : Nat) (i j : Int) (ho : oth 0 k i) => rdx_slot hI1 hP1 (Or.inl rfl) hC1 hw1 n0 n1 u0 u1 k i j ho
  have eS : mruS m = mruT (slM m1 n u) := by unfold mruS; rw [hm1, hw', ed, er]
  have eA : runS a = slotC a1 0 := by unfold runS; rw [ha1]
  have hm45 : rd m1 40 0 45 = w := by rw [← hm1, rd_mruB _ _ _ _ (by omega)]; exact hw'
  have r45 : rd (mruS m) 40 0 45 = w + 1 := by
    rw [eS]
    unfold mruT
    rw [rd_st, if_pos ⟨rfl, rfl, rfl⟩, wr_wr, rd_slM _ _ _ _ _ _ s45, hm45, wr_of (by omega) (by omega)]
  have rt : ∀ (k : Nat) (i j : Int), ¬ (k = 40 ∧ j = 45) → rd (mruS m) k i j = rd (slM m1 n u) k i j := fun k i j hk => by rw [eS]; unfold mruT; rw [rd_st, if_neg (fun c => hk ⟨c.1, c.2.2⟩)]
  rw [hw']
  refine ⟨⟨?_, ?_, fun q q0 q1 => ?_, ?_, ?_, ?_, ?_, ?_, ?_⟩, r45⟩
  · rw [eA]; exact PR_of p2 (fun k i j hk => rfl) (fun k i j hk => rt k i j (by omega))
  · rw [eA]; exact CR_of c2 (fun k i j hk => rfl) (fun c => by omega) (fun k j hk => rt k 0 j (by omega)) (fun c => by omega)
  · rw [r45] at q1
    rw [eA]
    have hE' : EF n m1 (mruS m) := by
      unfold EF
      simp only [show ∀ j, rd (mruS m) 74 0 j = rd (slM m1 n u) 74 0 j from fun j => rt 74 0 j (by omega), show ∀ j, rd (mruS m) 75 0 j = rd (slM m1 n u) 75 0 j from fun j => rt 75 0 j (by omega)]
      exact hE
    exact SRn_eff (hS1 q q0 (by omega)) q0 (by omega) (by omega) n1 hE' (fun k j k0 k1 => fr k q j (by unfold oth; omega)) (fun k j k0 k1 => by rw [rt k 0 j (by omega)]; exact rd_slM _ _ _ _ _ _ (by unfold sK; omega))
  · rw [r45]
    unfold LB
    simp only [show ∀ j, rd (mruS m) 74 0 j = rd (slM m1 n u) 74 0 j from fun j => rt 74 0 j (by omega), show ∀ j, rd (mruS m) 75 0 j = rd (slM m1 n u) 75 0 j from fun j => rt 75 0 j (by omega)]
    refine ⟨fun t j t0 t1 j0 j1 hj => ?_, fun i i0 i1 => ?_⟩
    · by_cases e : j = n
      · omega
      · rw [hE.1 t j t0 t1 j0 j1 e] at hj
        have := hL1.1 t j t0 t1 j0 j1 hj; omega
    · rcases hE.2 i i0 i1 with e | ⟨e1, e2⟩
      · rw [e]; have := hL1.2 i i0 i1; omega
      · rw [e2]; omega
  · rw [eA]
    refine ⟨fun s s0 s1 => ?_, fun t t0 t1 => ?_⟩
    · rw [fr 31 _ _ (by unfold oth; omega), fr 31 _ _ (by unfold oth; omega), fr 31 _ _ (by unfold oth; omega)]; exact hid1.1 s s0 s1
    · rw [fr 31 _ _ (by unfold oth; omega)]; exact hid1.2 t t0 t1
  · rw [eA, r45, w2]; omega
  · rw [r45]; omega
  · rw [eA]
    exact (slot_keep hI1 (CR_IC hP1 hC1 (by have hx := hC1.2.2.2.2.2.2 rfl; rw [hx.2.2.1]; exact hx.2.2.2.1.1)) (by omega) (by omega)).1
  · rw [eA, fr 27 _ _ (by unfold oth; omega)]; exact h271
theorem run_eq : ∀ (k : Nat) (i : Int) (a m : Mm), FU a m → runI k i a = mruI k i m ∧ FU (runM k a) (mruM k m)
  | 0, i, a, m, h => ⟨rfl, h⟩
  | k + 1, i, a, m, h => by
    unfold runI mruI runM mruM
    have h8 := h.2.2.2.2.2.1
    rw [h8]
    by_cases q : rd m 40 0 45 < 720
    · rw [pif_t q, pif_t q, pif_t q, pif_t q]
      exact run_eq k (i + 1) _ _ (run_step h q).1
    · rw [pif_f q, pif_f q, pif_f q, pif_f q]
      exact ⟨rfl, h⟩
