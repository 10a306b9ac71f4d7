/-! ===== what the law asks, of the numbers ===== -/
theorem cntT_congr {P Q : Int → Prop} : ∀ (n : Nat) (c s : Int), (∀ t, c ≤ t → t < c + n → (P t ↔ Q t)) → cntT P n c s = cntT Q n c s
  | 0, _, _, _ => rfl
  | n + 1, c, s, h => by
    show cntT P n (c + 1) (pif (P c) (s + 1) s) = cntT Q n (c + 1) (pif (Q c) (s + 1) s)
    rw [propext (h c (Int.le_refl _) (by omega)), cntT_congr n (c + 1) _ (fun t t0 t1 => h t (by omega) (by omega))]
theorem cntT_0 (P : Int → Prop) : ∀ (n : Nat) (c s : Int), 0 ≤ s → cntT P n c s ≤ s → ∀ t, c ≤ t → t < c + n → ¬ P t
  | 0, c, s, _, _, t, t0, t1 => by omega
  | n + 1, c, s, hs, h, t, t0, t1 => by
    have h' : cntT P n (c + 1) (pif (P c) (s + 1) s) ≤ s := h
    by_cases q : P c
    · rw [pif_t q] at h'
      have := cntT_nn P n (c + 1) (s + 1) (by omega)
      omega
    · rw [pif_f q] at h'
      by_cases e : t = c
      · rw [e]; exact q
      · exact cntT_0 P n (c + 1) s hs h' t (by omega) (by omega)
/-- what tell tells stays, where a course and the plan stay -/
theorem tellV_of {a a' : Mm} (ro : ∀ (k : Nat) i j, k = 18 ∨ 20 ≤ k ∧ dep 0 k i → rd a' k i j = rd a k i j) (n z : Int) (z0 : 0 ≤ z) : tellV a' n z = tellV a n z := by
  have r18 : ∀ i j, rd a' 18 i j = rd a 18 i j := fun i j => ro _ _ _ (Or.inl rfl)
  have rb : ∀ (k : Nat) j, 20 ≤ k → k ≤ 25 → rd a' k (30 + 0) j = rd a k (30 + 0) j := fun k j h1 h2 => ro _ _ _ (Or.inr ⟨h1, by unfold dep; omega⟩)
  have rx : ∀ (k : Nat) j, (k = 26 ∨ k = 27 ∨ k = 28 ∨ k = 32 ∨ k = 33 ∨ k = 34) → rd a' k 0 j = rd a k 0 j := fun k j h1 => ro _ _ _ (Or.inr ⟨by omega, by unfold dep; omega⟩)
  have r31 : ∀ w j, 0 ≤ w → w < 27 → rd a' 31 w j = rd a 31 w j := fun w j w0 w1 => ro _ _ _ (Or.inr ⟨by decide, by unfold dep; omega⟩)
  have ew : wantC a' (30 + 0) z 3 = wantC a (30 + 0) z 3 := by
    unfold wantC opC phP
    simp only [r18, rb 21 _ (by decide) (by decide), rb 22 _ (by decide) (by decide), rb 23 _ (by decide) (by decide)]
  have ewt : waitC a' = waitC a := by
    unfold waitC
    exact cntT_congr 24 0 0 (fun t t0 t1 => by rw [r31 _ _ (by omega) (by omega)])
  unfold tellV
  rw [ew, ewt, rb 21 _ (by decide) (by decide), rb 25 _ (by decide) (by decide), rx 32 _ (by decide), rx 33 _ (by decide), rx 34 _ (by decide), rx 26 _ (by decide), rx 27 _ (by decide)]
  by_cases c1 : z < 12
  · rw [pif_t c1, pif_t c1]
  rw [pif_f c1, pif_f c1]
  by_cases c2 : z < 16
  · rw [pif_t c2, pif_t c2]
  rw [pif_f c2, pif_f c2]
  by_cases c3 : z < 20
  · rw [pif_t c3, pif_t c3]
  rw [pif_f c3, pif_f c3]
  by_cases c4 : z < 23
  · rw [pif_t c4, pif_t c4, r31 _ _ (by omega) (by omega), r31 _ _ (by omega) (by omega), r31 _ _ (by omega) (by omega)]
  rw [pif_f c4, pif_f c4]
theorem sm_plus (f g : Int → Int) : ∀ n : Nat, sm (fun i => f i + g i) n = sm f n + sm g n
  | 0 => rfl
  | n + 1 => by
    show sm (fun i => f i + g i) n + (f n + g n) = sm f n + f n + (sm g n + g n)
    rw [sm_plus f g n]; omega
noncomputable def W1 (a : Mm) : Nat → Int := sm (fun g => sltC a g 0 + sltC a g 1)
noncomputable def W2 (a : Mm) : Nat → Int := sm (fun s => lstC a s 1 + lstC a s 0 + rd a 31 (27 * 0 + s) 2)
theorem slt_0 (a : Mm) (g : Int) : sltC a g 0 = rd a 25 (30 + 0) g := by unfold sltC; rw [pif_t rfl]
theorem slt_1 (a : Mm) (g : Int) : sltC a g 1 = rd a 32 0 g := by unfold sltC; rw [pif_f (by decide)]
theorem lst_0 (a : Mm) (s : Int) : lstC a s 0 = rd a 34 0 s := by unfold lstC; rw [pif_t rfl]
theorem lst_1 (a : Mm) (s : Int) : lstC a s 1 = rd a 33 0 s := by unfold lstC; rw [pif_f (by decide)]
/-- the slots, in all -/
theorem sum_asks {a : Mm} (h : JV a) : (∀ n : Nat, n ≤ 4 → 0 ≤ W1 a n ∧ W1 a n ≤ 2160) ∧ (∀ n : Nat, n ≤ 3 → 0 ≤ W1 a 4 + W2 a n ∧ W1 a 4 + W2 a n ≤ 2160) ∧ W1 a 4 + W2 a 3 ≤ 3 * rd a 26 0 8 ∧ (waitC a = 0 → W1 a 4 + W2 a 3 = 3 * rd a 26 0 8) := by
  obtain ⟨⟨⟨hI, hC, hNN, hV, hU, hT⟩, -, -⟩, -, w0, w1⟩ := h
  have e1 : ∀ n, W1 a n = sm (fun g => rd a 25 (30 + 0) g) n + sm (fun g => rd a 32 0 g) n := fun n => by
    unfold W1
    simp only [slt_0, slt_1]
    exact sm_plus _ _ n
  have e2 : ∀ n, W2 a n = sm (fun s => rd a 33 0 s) n + sm (fun s => rd a 34 0 s) n + sm (fun s => rd a 31 (27 * 0 + s) 2) n := fun n => by
    unfold W2
    simp only [lst_0, lst_1]
    rw [sm_plus (fun s => rd a 33 0 s + rd a 34 0 s) (fun s => rd a 31 (27 * 0 + s) 2) n, sm_plus]
  have hS : sm (fun v => rd a 31 (27 * 0 + v) 2) 27 = sm (fun v => rd a 31 (27 * 0 + v) 2) 3 + sm (fun t => rd a 31 (27 * 0 + (3 + t)) 2) 24 := sm_add (fun v => rd a 31 (27 * 0 + v) 2) 3 24
  unfold TOT at hT
  rw [hS] at hT
  have n24 := sm_nn (f := fun t => rd a 31 (27 * 0 + (3 + t)) 2) 24 (fun t t0 t1 => (hV _ (by omega) (by omega)).1)
  have mono : ∀ (f : Int → Int) (N : Nat), (∀ i : Int, 0 ≤ i → i < (N : Int) → 0 ≤ f i) → ∀ n : Nat, n ≤ N → 0 ≤ sm f n ∧ sm f n ≤ sm f N := fun f N hf n hn => by
    refine ⟨sm_nn n (fun i i0 i1 => hf i i0 (by omega)), ?_⟩
    have := sm_add f n (N - n)
    rw [show n + (N - n) = N by omega] at this
    have h2 := sm_nn (f := fun i => f ((n : Int) + i)) (N - n) (fun i i0 i1 => hf _ (by omega) (by omega))
    omega
  have m25 := mono (fun g => rd a 25 (30 + 0) g) 4 (fun g g0 g1 => (hNN.1 g g0 g1).1)
  have m32 := mono (fun g => rd a 32 0 g) 4 (fun g g0 g1 => (hNN.1 g g0 g1).2)
  have m33 := mono (fun s => rd a 33 0 s) 3 (fun s s0 s1 => (hNN.2 s s0 s1).1)
  have m34 := mono (fun s => rd a 34 0 s) 3 (fun s s0 s1 => (hNN.2 s s0 s1).2)
  have m31 := mono (fun s => rd a 31 (27 * 0 + s) 2) 3 (fun s s0 s1 => (hV _ (by omega) (by omega)).1)
  have q25 := m25 4 (Nat.le_refl _)
  have q32 := m32 4 (Nat.le_refl _)
  have q33 := m33 3 (Nat.le_refl _)
  have q34 := m34 3 (Nat.le_refl _)
  have q31 := m31 3 (Nat.le_refl _)
  refine ⟨fun n hn => ?_, fun n hn => ?_, ?_, fun hw => ?_⟩
  · have a1 := m25 n hn
    have a2 := m32 n hn
    rw [e1]; omega
  · have a1 := m33 n hn
    have a2 := m34 n hn
    have a3 := m31 n hn
    rw [e1, e2]; omega
  · rw [e1, e2]; omega
  · have hz := cntT_0 (fun t => ¬ rd a 31 (27 * 0 + 3 + t) 0 = 0) 24 0 0 (Int.le_refl _) (Int.le_of_eq hw)
    have e24 : sm (fun t => rd a 31 (27 * 0 + (3 + t)) 2) 24 = sm (fun _ => 0) 24 := sm_congr 24 (fun t t0 t1 => by
      have h9 := Classical.not_not.mp (hz t (by omega) (by omega))
      rw [show 27 * 0 + 3 + t = 27 * 0 + (3 + t) by omega] at h9
      exact (hV _ (by omega) (by omega)).2.1 h9)
    have z24 : sm (fun _ => 0) 24 = 0 := rfl
    rw [e1, e2]; omega
theorem sm_one {Q R : Prop} {p : Int} : ∀ m : Nat, (0 ≤ sm (fun t => bz (Q ∧ p = t ∧ R)) m ∧ sm (fun t => bz (Q ∧ p = t ∧ R)) m ≤ 1) ∧ ((m : Int) ≤ p → sm (fun t => bz (Q ∧ p = t ∧ R)) m = 0)
  | 0 => ⟨⟨Int.le_refl _, by show (0 : Int) ≤ 1; decide⟩, fun _ => rfl⟩
  | m + 1 => by
    obtain ⟨h1, h2⟩ := sm_one (Q := Q) (R := R) (p := p) m
    have e : sm (fun t => bz (Q ∧ p = t ∧ R)) (m + 1) = sm (fun t => bz (Q ∧ p = t ∧ R)) m + bz (Q ∧ p = (m : Int) ∧ R) := rfl
    rw [e]
    by_cases q : p = (m : Int)
    · rw [h2 (by omega)]
      have := bz01 (Q ∧ p = (m : Int) ∧ R)
      exact ⟨by omega, fun c => by omega⟩
    · rw [bz_f (fun c => q c.2.1)]
      exact ⟨by omega, fun c => by rw [h2 (by omega)]; rfl⟩
/-- no datum is of two targets -/
theorem many_le (a : Mm) (m : Nat) : ∀ n : Nat, 0 ≤ sm (fun t => cnt a 0 t n) m ∧ sm (fun t => cnt a 0 t n) m ≤ n
  | 0 => by
    have e : sm (fun t => cnt a 0 t 0) m = 0 := by
      rw [sm_congr (f := fun t => cnt a 0 t 0) (g := fun _ => 0) m (fun _ _ _ => rfl)]
      induction m with
      | zero => rfl
      | succ m ih => show sm (fun _ => 0) m + 0 = 0; rw [ih]; rfl
    rw [e]; exact ⟨Int.le_refl _, Int.le_refl _⟩
  | n + 1 => by
    have h := many_le a m n
    have e : sm (fun t => cnt a 0 t (n + 1)) m = sm (fun t => cnt a 0 t n) m + sm (fun t => bz (gdP a 0 t n)) m := sm_plus (fun t => cnt a 0 t n) (fun t => bz (gdP a 0 t n)) m
    have h2 := (sm_one (Q := rd a 28 0 ((n : Int) * 7) = 1) (R := rd a 28 0 ((n : Int) * 7 + 5) = 1) (p := rd a 28 0 ((n : Int) * 7 + 1)) m).1
    have h3 : sm (fun t => bz (gdP a 0 t n)) m = sm (fun t => bz (rd a 28 0 ((n : Int) * 7) = 1 ∧ rd a 28 0 ((n : Int) * 7 + 1) = t ∧ rd a 28 0 ((n : Int) * 7 + 5) = 1)) m := rfl
    rw [e, h3]
    omega
/-- who reads data -/
theorem reads_ok {a : Mm} (hI : IA a) (hP : PX a) {d g : Int} (hd : dOK a 0 d) : (0 < rd a 28 0 (d * 7 + 3) / 24 → ¬ crdP a g d (rd a 28 0 (d * 7 + 3) / 24 - 1)) ∧ (crdP a g d (rd a 28 0 (d * 7 + 3) / 24) → crdP a g d 29) := by
  obtain ⟨k1, k2, k3, -⟩ := hd
  have e : jdiv (rd a 28 0 (d * 7 + 3)) 24 = rd a 28 0 (d * 7 + 3) / 24 := jdiv24 k3.1 (by omega)
  unfold crdP crdN
  rw [e, wr_of (z := rd a 28 0 (d * 7 + 3) / 24 - 1 - rd a 28 0 (d * 7 + 3) / 24) (by omega) (by omega), wr_of (z := rd a 28 0 (d * 7 + 3) / 24 - rd a 28 0 (d * 7 + 3) / 24) (by omega) (by omega), wr_of (z := 29 - rd a 28 0 (d * 7 + 3) / 24) (by omega) (by omega)]
  refine ⟨fun _ h => by omega, fun h => ⟨by omega, ?_⟩⟩
  rcases h.2 with q | q | q
  · exact Or.inl q
  · exact Or.inr (Or.inl q)
  · have h1 : rd a 28 0 (d * 7) = 1 ∨ rd a 28 0 (d * 7) = 2 := k1
    rcases h1 with h1 | h1
    · obtain ⟨n0, n1⟩ := k2 h1
      have h7 := hI.2.2.2.2.1
      have ht := (hI.1 (rd a 28 0 (d * 7 + 1)) n0 (by omega)).2.2.2.2
      have := hP.2.1 _ ht.1 ht.2
      have e2 : crdT a d = rd a 28 0 (d * 7 + 1) := rfl
      rw [e2] at q
      omega
    · exact Or.inl h1
