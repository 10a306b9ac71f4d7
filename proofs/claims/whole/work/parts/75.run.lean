/-! ===== class and model side by side, XIV: nights that are noted; run ===== -/
theorem fori_out {F : Int → Mm → Mm} {k : Nat} {i j : Int} (lo hi : Int) : ∀ (n : Nat) (c : Int) (m : Mm), lo ≤ c → c + n ≤ hi → (∀ t m, lo ≤ t → t < hi → c ≤ t → t < c + n → rd (F t m) k i j = rd m k i j) → rd (fori F n c m) k i j = rd m k i j
  | 0, _, _, _, _, _ => rfl
  | n + 1, c, m, h0, h1, h => by
    show rd (fori F n (c + 1) (F c m)) k i j = _
    rw [fori_out lo hi n (c + 1) (F c m) (by omega) (by omega) (fun t m t0 t1 t2 t3 => h t m t0 t1 (by omega) (by omega))]
    exact h c m h0 (by omega) (by omega) (by omega)
theorem fori_at {F : Int → Mm → Mm} {inv : Mm → Prop} {k : Nat} {i : Int} {ix V : Int → Int} (lo hi : Int) (hinv : ∀ t m, lo ≤ t → t < hi → inv m → inv (F t m)) (hw : ∀ t m, lo ≤ t → t < hi → inv m → rd (F t m) k i (ix t) = V t) (ho : ∀ t m j, lo ≤ t → t < hi → j ≠ ix t → rd (F t m) k i j = rd m k i j) (inj : ∀ t t', ix t = ix t' → t = t') : ∀ (n : Nat) (c : Int) (m : Mm), lo ≤ c → c + n ≤ hi → inv m → ∀ t, c ≤ t → t < c + n → rd (fori F n c m) k i (ix t) = V t
  | 0, c, m, _, _, _, t, t0, t1 => by omega
  | n + 1, c, m, h0, h1, hm, t, t0, t1 => by
    show rd (fori F n (c + 1) (F c m)) k i (ix t) = V t
    by_cases e : t = c
    · subst e
      rw [fori_out lo hi n (t + 1) (F t m) (by omega) (by omega) (fun t' m' a0 a1 a2 a3 => ho t' m' _ a0 a1 (fun c => by have := inj _ _ c; omega))]
      exact hw t m h0 (by omega) hm
    · exact fori_at lo hi hinv hw ho inj n (c + 1) (F c m) (by omega) (by omega) (hinv c m h0 (by omega) hm) t (by omega) (by omega)
theorem rd_cf4 (mm : Mm) (b b' : Int) (hb : b ≠ b') (k : Nat) (i j : Int) : rd (cf4 mm b b') k i j = if (k = 21 ∨ k = 22 ∨ k = 23 ∨ k = 25) ∧ i = b' then rd mm k b j else rd mm k i j := by
  unfold cf4
  simp only [rd_cpM]
  by_cases q : i = b'
  · subst q
    by_cases q1 : k = 21
    · subst q1; simp [hb]
    · by_cases q2 : k = 22
      · subst q2; simp [hb]
      · by_cases q3 : k = 23
        · subst q3; simp [hb]
        · by_cases q4 : k = 25
          · subst q4; simp [hb]
          · simp [q1, q2, q3, q4]
  · simp [q]
theorem cf_t (mm : Mm) (b b' : Int) (hb : b ≠ b') (k : Nat) (j : Int) (hk : k = 21 ∨ k = 22 ∨ k = 23 ∨ k = 25) : rd (cfC mm b b') k b' j = rd mm k b j := by
  unfold cfC
  rw [fori_out 0 10 10 0 _ (by decide) (by decide) (fun t m _ _ _ _ => rd_st_ne (by omega)), rd_cf4 _ _ _ hb, if_pos ⟨hk, rfl⟩]
theorem cf_24 (mm : Mm) (b b' : Int) (hb : b ≠ b') (j : Int) (j0 : 0 ≤ j) (j1 : j < 10) (h01 : rd mm 24 b j = 0 ∨ rd mm 24 b j = 1) : rd (cfC mm b b') 24 b' j = rd mm 24 b j := by
  unfold cfC
  have h := fori_at (F := fun j m => st m 24 b' j (wr (rd m 24 b j) % 2)) (inv := fun m => ∀ z, rd m 24 b z = rd mm 24 b z) (k := 24) (i := b') (ix := fun t => t) (V := fun t => wr (wr (rd mm 24 b t) % 2)) 0 10 (fun t m _ _ h z => by rw [rd_stx (fun c => hb c.2)]; exact h z) (fun t m _ _ h => by rw [rd_st, if_pos ⟨rfl, rfl, rfl⟩, h]) (fun t m j _ _ hj => by rw [rd_st, if_neg (fun c => hj c.2.2)]) (fun t t' c => c) 10 0 (cf4 mm b b') (by decide) (by decide) (fun z => by rw [rd_cf4 _ _ _ hb, if_neg (by omega)]) j j0 (by omega)
  refine h.trans ?_
  rcases h01 with e | e <;> (rw [e]; decide)
theorem cf_o (mm : Mm) (b b' : Int) (hb : b ≠ b') (k : Nat) (i j : Int) (h : i ≠ b' ∨ k < 21 ∨ 25 < k) : rd (cfC mm b b') k i j = rd mm k i j := by
  unfold cfC
  rw [fori_out 0 10 10 0 _ (by decide) (by decide) (fun t m _ _ _ _ => rd_stx (by omega)), rd_cf4 _ _ _ hb, if_neg (by omega)]
theorem no_87 (m : Mm) (q g : Int) (g0 : 0 ≤ g) (g1 : g < 4) : rd (noM m q) 87 0 (4 * q + g) = rd m 76 0 g := by
  unfold noM noB
  rw [fori_out 0 24 24 0 _ (by decide) (by decide) (fun t m _ _ _ _ => by unfold noB2 noB1; rw [rd_st_ne (by decide), rd_st_ne (by decide)])]
  unfold noA
  have h := fori_at (F := fun i m => st m 87 0 (4 * q + i) (wr (rd m 76 0 i))) (inv := fun m' => ∀ z, rd m' 76 0 z = rd m 76 0 z) (k := 87) (i := 0) (ix := fun t => 4 * q + t) (V := fun t => rd m 76 0 t) 0 4 (fun t m' _ _ h z => by rw [rd_st_ne (by decide)]; exact h z) (fun t m' _ _ h => by rw [rd_st, if_pos ⟨rfl, rfl, rfl⟩, h, wr_wr, wr_rd]) (fun t m' j _ _ hj => by rw [rd_st, if_neg (fun c => hj c.2.2)]) (fun t t' c => by omega) 4 0 m (by decide) (by decide) (fun z => rfl) g g0 (by omega)
  exact h
theorem no_87o (m : Mm) (q j : Int) (h : j < 4 * q ∨ 4 * q + 4 ≤ j) : rd (noM m q) 87 0 j = rd m 87 0 j := by
  unfold noM noB
  rw [fori_out 0 24 24 0 _ (by decide) (by decide) (fun t m _ _ _ _ => by unfold noB2 noB1; rw [rd_st_ne (by decide), rd_st_ne (by decide)])]
  unfold noA
  rw [fori_out 0 4 4 0 _ (by decide) (by decide) (fun t m t0 t1 _ _ => by rw [rd_st, if_neg (by omega)])]
theorem noA_k (m : Mm) (q : Int) (k : Nat) (i j : Int) (h : k ≠ 87) : rd (noA q m) k i j = rd m k i j := by
  unfold noA
  exact fori_out 0 4 4 0 _ (by decide) (by decide) (fun t m t0 t1 _ _ => rd_st_ne h)
theorem no_88 (m : Mm) (q t : Int) (t0 : 0 ≤ t) (t1 : t < 24) : rd (noM m q) 88 0 (24 * q + t) = rd m 72 0 t ∧ rd (noM m q) 89 0 (24 * q + t) = rd m 73 0 t := by
  unfold noM noB
  have hinv : ∀ t m', (0 : Int) ≤ t → t < 24 → (∀ z, rd m' 72 0 z = rd m 72 0 z ∧ rd m' 73 0 z = rd m 73 0 z) → ∀ z, rd (noB2 q t (noB1 q t m')) 72 0 z = rd m 72 0 z ∧ rd (noB2 q t (noB1 q t m')) 73 0 z = rd m 73 0 z := fun t m' _ _ h z => by
    unfold noB2 noB1
    rw [rd_st_ne (by decide), rd_st_ne (by decide), rd_st_ne (by decide), rd_st_ne (by decide)]
    exact h z
  refine ⟨?_, ?_⟩
  · exact fori_at (F := fun i m => noB2 q i (noB1 q i m)) (inv := fun m' => ∀ z, rd m' 72 0 z = rd m 72 0 z ∧ rd m' 73 0 z = rd m 73 0 z) (k := 88) (i := 0) (ix := fun t => 24 * q + t) (V := fun t => rd m 72 0 t) 0 24 hinv (fun t m' _ _ h => by unfold noB2 noB1; rw [rd_st_ne (by decide), rd_st, if_pos ⟨rfl, rfl, rfl⟩, wr_wr, wr_rd]; exact (h t).1) (fun t m' j _ _ hj => by unfold noB2 noB1; rw [rd_st_ne (by decide), rd_st, if_neg (fun c => hj c.2.2)]) (fun t t' c => by omega) 24 0 _ (by decide) (by decide) (fun z => ⟨noA_k _ _ _ _ _ (by decide), noA_k _ _ _ _ _ (by decide)⟩) t t0 (by omega)
  · exact fori_at (F := fun i m => noB2 q i (noB1 q i m)) (inv := fun m' => ∀ z, rd m' 72 0 z = rd m 72 0 z ∧ rd m' 73 0 z = rd m 73 0 z) (k := 89) (i := 0) (ix := fun t => 24 * q + t) (V := fun t => rd m 73 0 t) 0 24 hinv (fun t m' _ _ h => by unfold noB2; rw [rd_st, if_pos ⟨rfl, rfl, rfl⟩, wr_wr]; unfold noB1; rw [rd_st_ne (by decide), wr_rd]; exact (h t).2) (fun t m' j _ _ hj => by unfold noB2 noB1; rw [rd_st, if_neg (fun c => hj c.2.2), rd_st_ne (by decide)]) (fun t t' c => by omega) 24 0 _ (by decide) (by decide) (fun z => ⟨noA_k _ _ _ _ _ (by decide), noA_k _ _ _ _ _ (by decide)⟩) t t0 (by omega)
theorem no_88o (m : Mm) (q j : Int) (k : Nat) (hk : k = 88 ∨ k = 89) (h : j < 24 * q ∨ 24 * q + 24 ≤ j) : rd (noM m q) k 0 j = rd m k 0 j := by
  unfold noM noB
  rw [fori_out 0 24 24 0 _ (by decide) (by decide) (fun t m t0 t1 _ _ => by unfold noB2 noB1; rw [rd_st, if_neg (by omega), rd_st, if_neg (by omega)])]
  exact noA_k _ _ _ _ _ (by omega)
/-- night n as it was noted -/
def SRn (a m : Mm) (n : Int) : Prop :=
  (∀ t, 0 ≤ t → t < 24 → rd a 21 n t = rd m 88 0 (24 * n + t) ∧ rd a 23 n t = rd m 89 0 (24 * n + t) ∧ rd a 22 n t = wr (jand (rd m 74 0 t) (jshl 1 n - 1))) ∧
  (∀ i, 0 ≤ i → i < 10 → (rd a 24 n i = 0 ∨ rd a 24 n i = 1) ∧ (rd a 24 n i = 0 ↔ ¬ (0 ≤ rd m 75 0 i ∧ rd m 75 0 i < n))) ∧
  (∀ g, 0 ≤ g → g < 4 → rd a 25 n g = rd m 87 0 (4 * n + g))
/-- good nights and served alerts lie behind the time w -/
def LB (m : Mm) (w : Int) : Prop := (∀ t j, 0 ≤ t → t < 24 → 0 ≤ j → j < 32 → tb (rd m 74 0 t) j = true → 24 * j < w) ∧ (∀ i, 0 ≤ i → i < 10 → rd m 75 0 i < 0 ∨ 24 * rd m 75 0 i < w)
theorem note_self {a m : Mm} {n : Int} (hb : bkR a m 30) (hL : LB m (24 * n)) (n0 : 0 ≤ n) (n1 : n < 30) : SRn (cfC a 30 n) (noM m n) n := by
  refine ⟨fun t t0 t1 => ?_, fun i i0 i1 => ?_, fun g g0 g1 => ?_⟩
  · obtain ⟨h1, h2, h3⟩ := hb.1 t t0 t1
    rw [cf_t _ _ _ (by omega) _ _ (by decide), cf_t _ _ _ (by omega) _ _ (by decide), cf_t _ _ _ (by omega) _ _ (by decide), (no_88 m n t t0 t1).1, (no_88 m n t t0 t1).2, rd_noM _ _ _ _ _ (by decide)]
    refine ⟨h1, h3, ?_⟩
    rw [h2, ← wr_rd m 74 0 t]
    refine tb_ext (fun j j0 j1 => ?_)
    rw [tb_and, tb_msk n0 n1 j0 j1, tb_wr]
    by_cases e : tb (rd m 74 0 t) j = true
    · have := hL.1 t j t0 t1 j0 j1 e
      rw [e, decide_eq_true (by omega)]; rfl
    · rw [Bool.eq_false_iff.mpr e]; rfl
  · obtain ⟨h1, h2⟩ := hb.2.1 i i0 i1
    rw [cf_24 _ _ _ (by omega) _ i0 i1 h1, rd_noM _ _ _ _ _ (by decide)]
    refine ⟨h1, ?_⟩
    rw [h2]
    rcases hL.2 i i0 i1 with e | e
    · constructor
      · intro _ c; omega
      · intro _; exact e
    · constructor
      · intro h c; omega
      · intro h
        rcases Int.lt_or_le (rd m 75 0 i) 0 with c | c
        · exact c
        · exact absurd ⟨c, by omega⟩ h
  · rw [cf_t _ _ _ (by omega) _ _ (by decide), no_87 _ _ _ g0 g1]; exact hb.2.2 g g0 g1
theorem note_oth {a m : Mm} {n q : Int} (hS : SRn a m q) (hne : q ≠ n) (n0 : 0 ≤ n) (n1 : n < 30) : SRn (cfC a 30 n) (noM m n) q := by
  refine ⟨fun t t0 t1 => ?_, fun i i0 i1 => ?_, fun g g0 g1 => ?_⟩
  · rw [cf_o _ _ _ (by omega) _ _ _ (Or.inl hne), cf_o _ _ _ (by omega) _ _ _ (Or.inl hne), cf_o _ _ _ (by omega) _ _ _ (Or.inl hne), no_88o _ _ _ 88 (Or.inl rfl) (by omega), no_88o _ _ _ 89 (Or.inr rfl) (by omega), rd_noM _ _ _ _ _ (by decide)]
    exact hS.1 t t0 t1
  · rw [cf_o _ _ _ (by omega) _ _ _ (Or.inl hne), rd_noM _ _ _ _ _ (by decide)]; exact hS.2.1 i i0 i1
  · rw [cf_o _ _ _ (by omega) _ _ _ (Or.inl hne), no_87o _ _ _ (by omega)]; exact hS.2.2 g g0 g1
theorem SRn_eff {a m a' m' : Mm} {n q : Int} (hS : SRn a m q) (q0 : 0 ≤ q) (q1 : q < 30) (hq : q ≤ n) (n1 : n < 30) (hE : EF n m m') (ha : ∀ (k : Nat) j, 21 ≤ k → k ≤ 25 → rd a' k q j = rd a k q j) (hm : ∀ (k : Nat) j, 87 ≤ k → k ≤ 89 → rd m' k 0 j = rd m k 0 j) : SRn a' m' q := by
  refine ⟨fun t t0 t1 => ?_, fun i i0 i1 => ?_, fun g g0 g1 => ?_⟩
  · rw [ha 21 _ (by decide) (by decide), ha 22 _ (by decide) (by decide), ha 23 _ (by decide) (by decide), hm 88 _ (by decide) (by decide), hm 89 _ (by decide) (by decide)]
    obtain ⟨h1, h2, h3⟩ := hS.1 t t0 t1
    refine ⟨h1, h2, h3.trans (tb_ext fun j j0 j1 => ?_)⟩
    rw [tb_and, tb_and, tb_msk q0 q1 j0 j1]
    by_cases e : j < q
    · rw [hE.1 t j t0 t1 j0 j1 (by omega)]
    · rw [decide_eq_false e, Bool.and_false, Bool.and_false]
  · rw [ha 24 _ (by decide) (by decide)]
    obtain ⟨h1, h2⟩ := hS.2.1 i i0 i1
    refine ⟨h1, h2.trans ?_⟩
    rcases hE.2 i i0 i1 with e | ⟨e1, e2⟩
    · rw [e]
    · rw [e2]; constructor
      · intro _ c; omega
      · intro _ c; omega
  · rw [ha 25 _ (by decide) (by decide), hm 87 _ (by decide) (by decide)]; exact hS.2.2 g g0 g1
