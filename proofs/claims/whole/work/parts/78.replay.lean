/-! ===== class and model side by side, XVII: replay ===== -/
theorem gb_o (m : Mm) (n : Int) (k : Nat) (i j : Int) (h : k ≠ 72 ∧ k ≠ 73 ∧ k ≠ 74 ∧ k ≠ 83 ∧ k ≠ 75 ∧ k ≠ 76 ∧ k ≠ 80) : rd (gbM m n) k i j = rd m k i j := by
  unfold gbM
  rw [fori_out 0 3 3 0 _ (by decide) (by decide) (fun t m _ _ _ _ => by unfold gbV; exact rd_st_ne (by omega)), fori_out 0 4 4 0 _ (by decide) (by decide) (fun t m _ _ _ _ => by unfold gbC; exact rd_st_ne (by omega)), fori_out 0 10 10 0 _ (by decide) (by decide) (fun t m _ _ _ _ => by unfold gbA; exact rd_st_ne (by omega)), fori_out 0 24 24 0 _ (by decide) (by decide) (fun t m _ _ _ _ => by unfold gbT gb4 gb3 gb2 gb1; rw [rd_st_ne (by omega), rd_st_ne (by omega), rd_st_ne (by omega), rd_st_ne (by omega)])]
theorem gb_T (m : Mm) (n : Int) (k : Nat) (j : Int) (hk : k = 72 ∨ k = 73 ∨ k = 74 ∨ k = 83) : rd (gbM m n) k 0 j = rd (fori (gbT n) 24 0 m) k 0 j := by
  unfold gbM
  rw [fori_out 0 3 3 0 _ (by decide) (by decide) (fun t m _ _ _ _ => by unfold gbV; exact rd_st_ne (by omega)), fori_out 0 4 4 0 _ (by decide) (by decide) (fun t m _ _ _ _ => by unfold gbC; exact rd_st_ne (by omega)), fori_out 0 10 10 0 _ (by decide) (by decide) (fun t m _ _ _ _ => by unfold gbA; exact rd_st_ne (by omega))]
theorem gb_72 (m : Mm) (n t : Int) (t0 : 0 ≤ t) (t1 : t < 24) : rd (gbM m n) 72 0 t = rd m 88 0 (24 * n + t) := by
  rw [gb_T _ _ _ _ (by decide)]
  exact fori_at2 (F := gbT n) (inv := fun m9 => ∀ z, rd m9 88 0 z = rd m 88 0 z) (k := 72) (i := 0) (ix := fun t => t) (V := fun t => rd m 88 0 (24 * n + t)) 0 24 (fun t m9 _ _ h z => by unfold gbT gb4 gb3 gb2 gb1; rw [rd_st_ne (by decide), rd_st_ne (by decide), rd_st_ne (by decide), rd_st_ne (by decide)]; exact h z) (fun t m9 _ _ h => by unfold gbT gb4 gb3 gb2 gb1; rw [rd_st_ne (by decide), rd_st_ne (by decide), rd_st_ne (by decide), rd_st, if_pos ⟨rfl, rfl, rfl⟩, wr_wr, wr_rd]; exact h _) (fun t t' m9 _ _ _ _ hne => by unfold gbT gb4 gb3 gb2 gb1; rw [rd_st_ne (by decide), rd_st_ne (by decide), rd_st_ne (by decide), rd_st, if_neg (fun c => hne c.2.2.symm)]) 24 0 m (by decide) (by decide) (fun z => rfl) t t0 (by omega)
theorem gb_73 (m : Mm) (n t : Int) (t0 : 0 ≤ t) (t1 : t < 24) : rd (gbM m n) 73 0 t = rd m 89 0 (24 * n + t) := by
  rw [gb_T _ _ _ _ (by decide)]
  exact fori_at2 (F := gbT n) (inv := fun m9 => ∀ z, rd m9 89 0 z = rd m 89 0 z) (k := 73) (i := 0) (ix := fun t => t) (V := fun t => rd m 89 0 (24 * n + t)) 0 24 (fun t m9 _ _ h z => by unfold gbT gb4 gb3 gb2 gb1; rw [rd_st_ne (by decide), rd_st_ne (by decide), rd_st_ne (by decide), rd_st_ne (by decide)]; exact h z) (fun t m9 _ _ h => by unfold gbT gb4 gb3 gb2; rw [rd_st_ne (by decide), rd_st_ne (by decide), rd_st, if_pos ⟨rfl, rfl, rfl⟩, wr_wr, wr_rd]; unfold gb1; rw [rd_st_ne (by decide)]; exact h _) (fun t t' m9 _ _ _ _ hne => by unfold gbT gb4 gb3 gb2 gb1; rw [rd_st_ne (by decide), rd_st_ne (by decide), rd_st, if_neg (fun c => hne c.2.2.symm), rd_st_ne (by decide)]) 24 0 m (by decide) (by decide) (fun z => rfl) t t0 (by omega)
theorem gb_83 (m : Mm) (n t : Int) (t0 : 0 ≤ t) (t1 : t < 24) : rd (gbM m n) 83 0 t = 0 := by
  rw [gb_T _ _ _ _ (by decide)]
  exact fori_at2 (F := gbT n) (inv := fun m9 => True) (k := 83) (i := 0) (ix := fun t => t) (V := fun t => 0) 0 24 (fun t m9 _ _ h => h) (fun t m9 _ _ h => by unfold gbT gb4; rw [rd_st, if_pos ⟨rfl, rfl, rfl⟩]; rfl) (fun t t' m9 _ _ _ _ hne => by unfold gbT gb4 gb3 gb2 gb1; rw [rd_st, if_neg (fun c => hne c.2.2.symm), rd_st_ne (by decide), rd_st_ne (by decide), rd_st_ne (by decide)]) 24 0 m (by decide) (by decide) trivial t t0 (by omega)
theorem gb_74 (m : Mm) (n t : Int) (t0 : 0 ≤ t) (t1 : t < 24) : rd (gbM m n) 74 0 t = wr (jand (rd m 74 0 t) (jshl 1 n - 1)) := by
  rw [gb_T _ _ _ _ (by decide)]
  have h : ∀ (k : Nat) (c : Int) (m9 : Mm), 0 ≤ c → c + k ≤ 24 → (∀ z, c ≤ z → rd m9 74 0 z = rd m 74 0 z) → ∀ t, c ≤ t → t < c + k → rd (fori (gbT n) k c m9) 74 0 t = wr (jand (rd m 74 0 t) (jshl 1 n - 1)) := by
    intro k
    induction k with
    | zero => intro c m9 _ _ _ t t0 t1; omega
    | succ k ih =>
      intro c m9 c0 ck hm t t0 t1
      show rd (fori (gbT n) k (c + 1) (gbT n c m9)) 74 0 t = _
      have e : ∀ z, rd (gbT n c m9) 74 0 z = if z = c then wr (jand (rd m9 74 0 c) (jshl 1 n - 1)) else rd m9 74 0 z := fun z => by
        unfold gbT gb4 gb3
        rw [rd_st_ne (by decide), rd_st]
        unfold gb2 gb1
        rw [rd_st_ne (by decide), rd_st_ne (by decide), rd_st_ne (by decide), rd_st_ne (by decide), wr_wr]
        by_cases q : z = c
        · rw [if_pos ⟨rfl, rfl, q⟩, if_pos q]
        · rw [if_neg (fun x => q x.2.2), if_neg q]
      by_cases q : t = c
      · subst q
        rw [fori_out 0 24 k (t + 1) _ (by omega) (by omega) (fun t' m9 _ _ h1 _ => by unfold gbT gb4 gb3 gb2 gb1; rw [rd_st_ne (by decide), rd_st, if_neg (by omega), rd_st_ne (by decide), rd_st_ne (by decide)]), e, if_pos rfl, hm t (by omega)]
      · exact ih (c + 1) _ (by omega) (by omega) (fun z z0 => by rw [e, if_neg (by omega)]; exact hm z (by omega)) t (by omega) (by omega)
  exact h 24 0 m (by decide) (by decide) (fun z _ => rfl) t t0 (by omega)
theorem gb_75 (m : Mm) (n t : Int) (t0 : 0 ≤ t) (t1 : t < 10) : rd (gbM m n) 75 0 t = pif (rd m 75 0 t < n) (rd m 75 0 t) (-1) := by
  unfold gbM
  rw [fori_out 0 3 3 0 _ (by decide) (by decide) (fun t m _ _ _ _ => by unfold gbV; exact rd_st_ne (by omega)), fori_out 0 4 4 0 _ (by decide) (by decide) (fun t m _ _ _ _ => by unfold gbC; exact rd_st_ne (by omega))]
  have h : ∀ (k : Nat) (c : Int) (m9 : Mm), 0 ≤ c → c + k ≤ 10 → (∀ z, c ≤ z → rd m9 75 0 z = rd m 75 0 z) → ∀ t, c ≤ t → t < c + k → rd (fori (gbA n) k c m9) 75 0 t = pif (rd m 75 0 t < n) (rd m 75 0 t) (-1) := by
    intro k
    induction k with
    | zero => intro c m9 _ _ _ t t0 t1; omega
    | succ k ih =>
      intro c m9 c0 ck hm t t0 t1
      show rd (fori (gbA n) k (c + 1) (gbA n c m9)) 75 0 t = _
      by_cases q : t = c
      · subst q
        rw [fori_out 0 10 k (t + 1) _ (by omega) (by omega) (fun t' m9 _ _ h1 _ => by unfold gbA; rw [rd_st, if_neg (by omega)])]
        unfold gbA
        rw [rd_st, if_pos ⟨rfl, rfl, rfl⟩, wr_wr, hm t (by omega)]
        by_cases q2 : rd m 75 0 t < n
        · rw [pif_t q2]; exact wr_rd _ _ _ _
        · rw [pif_f q2]; rfl
      · exact ih (c + 1) _ (by omega) (by omega) (fun z z0 => by unfold gbA; rw [rd_st, if_neg (by omega)]; exact hm z (by omega)) t (by omega) (by omega)
  refine h 10 0 _ (by decide) (by decide) (fun z _ => ?_) t t0 (by omega)
  exact fori_out 0 24 24 0 _ (by decide) (by decide) (fun t m _ _ _ _ => by unfold gbT gb4 gb3 gb2 gb1; rw [rd_st_ne (by decide), rd_st_ne (by decide), rd_st_ne (by decide), rd_st_ne (by decide)])
theorem gb_76 (m : Mm) (n t : Int) (t0 : 0 ≤ t) (t1 : t < 4) : rd (gbM m n) 76 0 t = rd m 87 0 (4 * n + t) := by
  unfold gbM
  rw [fori_out 0 3 3 0 _ (by decide) (by decide) (fun t m _ _ _ _ => by unfold gbV; exact rd_st_ne (by omega))]
  refine fori_at2 (F := gbC n) (inv := fun m9 => ∀ z, rd m9 87 0 z = rd m 87 0 z) (k := 76) (i := 0) (ix := fun t => t) (V := fun t => rd m 87 0 (4 * n + t)) 0 4 (fun t m9 _ _ h z => by unfold gbC; rw [rd_st_ne (by decide)]; exact h z) (fun t m9 _ _ h => by unfold gbC; rw [rd_st, if_pos ⟨rfl, rfl, rfl⟩, wr_wr, wr_rd]; exact h _) (fun t t' m9 _ _ _ _ hne => by unfold gbC; rw [rd_st, if_neg (fun c => hne c.2.2.symm)]) 4 0 _ (by decide) (by decide) (fun z => ?_) t t0 (by omega)
  rw [fori_out 0 10 10 0 _ (by decide) (by decide) (fun t m _ _ _ _ => by unfold gbA; exact rd_st_ne (by omega)), fori_out 0 24 24 0 _ (by decide) (by decide) (fun t m _ _ _ _ => by unfold gbT gb4 gb3 gb2 gb1; rw [rd_st_ne (by omega), rd_st_ne (by omega), rd_st_ne (by omega), rd_st_ne (by omega)])]
theorem gb_80 (m : Mm) (n t : Int) (t0 : 0 ≤ t) (t1 : t < 3) : rd (gbM m n) 80 0 t = -1 := by
  unfold gbM
  exact fori_at2 (F := gbV) (inv := fun m9 => True) (k := 80) (i := 0) (ix := fun t => t) (V := fun t => -1) 0 3 (fun t m9 _ _ h => h) (fun t m9 _ _ h => by unfold gbV; rw [rd_st, if_pos ⟨rfl, rfl, rfl⟩]; rfl) (fun t t' m9 _ _ _ _ hne => by unfold gbV; rw [rd_st, if_neg (fun c => hne c.2.2.symm)]) 3 0 _ (by decide) (by decide) trivial t t0 (by omega)
theorem rePre_r (m : Mm) (n : Int) (k : Nat) (i j : Int) (h : ¬ (k = 40 ∧ (j = 50 ∨ j = 51))) : rd (rePre m n) k i j = rd (gbM (kqM false m) n) k i j := by
  unfold rePre reS
  rw [rd_st, if_neg (by omega), rd_st, if_neg (by omega)]; rfl
theorem res_o (a : Mm) (n : Int) (n0 : 0 ≤ n) (n1 : n < 30) (k : Nat) (i j : Int) (h : oth 1 k i) : rd (resC a 1 n n) k i j = rd a k i j := by
  unfold oth at h
  unfold resC rs1
  rw [rd_stx (by omega), rd_stx (by omega), rd_stx (by omega), cf_o _ _ _ (by omega) _ _ _ (by omega)]
/-- before a replay's first slot -/
theorem pre_step {a m : Mm} {n : Int} (h : FU a m) (n0 : 0 ≤ n) (n1 : n < 30) (hn : 24 * n < rd m 40 0 45) : PR (resC a 1 n n) (rePre m n) ∧ CR (resC a 1 n n) (rePre m n) 1 ∧ rd (resC a 1 n n) 26 1 8 = 24 * n + 0 ∧ IA (resC a 1 n n) ∧ IC (resC a 1 n n) 1 := by
  obtain ⟨hP, hC, hS, hL, hid, h8, hW, hI, h27⟩ := h
  obtain ⟨s1, s2, s3⟩ := hS n n0 hn
  have ra := fun (k : Nat) (i j : Int) (ho : oth 1 k i) => res_o a n n0 n1 k i j ho
  have kq := fun (k : Nat) (j : Int) (hk : k ≠ 90) => kq_f m k 0 j hk
  have e : ∀ (k : Nat) (j : Int), ¬ (k = 40 ∧ (j = 50 ∨ j = 51)) → rd (rePre m n) k 0 j = rd (gbM (kqM false m) n) k 0 j := fun k j hk => rePre_r m n k 0 j hk
  have ro : ∀ (k : Nat) (i j : Int), k < 72 → ¬ (k = 40 ∧ (j = 50 ∨ j = 51)) → rd (rePre m n) k i j = rd m k i j := fun k i j hk hk2 => by
    rw [rePre_r _ _ _ _ _ hk2, gb_o _ _ _ _ _ (by omega), kq_f _ _ _ _ (by omega)]
  have c31 : ∀ (k : Nat) j, k = 21 ∨ k = 22 ∨ k = 23 ∨ k = 25 → rd (resC a 1 n n) k 31 j = rd a k n j := fun k j hk => by
    unfold resC rs1
    rw [rd_st_ne (by omega), rd_st_ne (by omega), rd_st_ne (by omega)]
    exact cf_t a n 31 (by omega) k j hk
  have hidr : idR (resC a 1 n n) 1 := by
    unfold idR
    simp only [rd_res31]
    exact hid
  have hv : ∀ s, 0 ≤ s → s < 3 → rd (rePre m n) 80 0 s = -1 := fun s s0 s1 => by rw [e 80 _ (by omega), gb_80 _ _ _ s0 s1]
  refine ⟨PR_of hP (fun k i j hk => ra k i j (by unfold oth; omega)) (fun k i j hk => ro k i j (by omega) (by omega)), ⟨⟨fun t t0 t1 => ?_, fun i i0 i1 => ?_, fun g g0 g1 => ?_⟩, fun s g0 g1 => ?_, fun t t0 t1 => ?_, fun s s' z0 z1 _ _ _ c => ?_, ?_, fun _ => ?_, fun c => absurd c (by decide)⟩, ?_, IA_of hI (fun k i j hk => ra k i j (by unfold oth; omega)), ?_⟩
  · obtain ⟨f1, f2, f3⟩ := s1 t t0 t1
    show rd (resC a 1 n n) 21 31 t = _ ∧ rd (resC a 1 n n) 22 31 t = _ ∧ rd (resC a 1 n n) 23 31 t = _
    rw [c31 21 _ (by decide), c31 22 _ (by decide), c31 23 _ (by decide), e 72 _ (by omega), e 73 _ (by omega), e 74 _ (by omega), gb_72 _ _ _ t0 t1, gb_73 _ _ _ t0 t1, gb_74 _ _ _ t0 t1, kq 88 _ (by decide), kq 89 _ (by decide), kq 74 _ (by decide)]
    exact ⟨f1, f3, f2⟩
  · obtain ⟨f1, f2⟩ := s2 i i0 i1
    have e24 : rd (resC a 1 n n) 24 (30 + 1) i = rd a 24 n i := by
      unfold resC rs1
      rw [rd_st_ne (by omega), rd_st_ne (by omega), rd_st_ne (by omega)]
      exact cf_24 a n 31 (by omega) i i0 i1 f1
    rw [e24, e 75 _ (by omega), gb_75 _ _ _ i0 i1, kq 75 _ (by decide)]
    refine ⟨f1, f2.trans ?_⟩
    by_cases q : rd m 75 0 i < n
    · rw [pif_t q]; omega
    · rw [pif_f q]; omega
  · show rd (resC a 1 n n) 25 31 g = _
    rw [c31 25 _ (by decide), e 76 _ (by omega), gb_76 _ _ _ g0 g1, kq 87 _ (by decide)]
    exact s3 g g0 g1
  · exact Or.inl ⟨hv s g0 g1, hidr.1 s g0 g1⟩
  · refine Or.inl ⟨?_, hidr.2 t t0 t1⟩
    rw [e 83 _ (by omega), gb_83 _ _ _ t0 t1]
  · rw [hv s z0 z1] at c; omega
  · unfold rePre reS
    rw [rd_st, if_neg (by omega), rd_st, if_pos ⟨rfl, rfl, rfl⟩]; rfl
  · unfold rePre reS resC rs1
    rw [rd_st, if_pos ⟨rfl, rfl, rfl⟩, rd_st, if_pos ⟨rfl, rfl, rfl⟩]
  · rw [rd_res8 _ _ _ _ n0 n1]; omega
  · exact id_IC hidr (by rw [rd_res27]; decide)
/-- the slots of a replay -/
theorem slots_step {n : Int} (n0 : 0 ≤ n) (n1 : n < 30) : ∀ (k : Nat) (u : Int) (a m : Mm), 0 ≤ u → u + k = 24 → 0 < k → PR a m → CR a m 1 → rd a 26 1 8 = 24 * n + u → IA a → IC a 1 →
    PR (slotN 1 k a) (fori (fun t m => slM m n t) k u m) ∧ CR (slotN 1 k a) (fori (fun t m => slM m n t) k u m) 1 ∧ idR (slotN 1 k a) 1 ∧ IA (slotN 1 k a) ∧ IC (slotN 1 k a) 1 ∧ (∀ (k9 : Nat) i j, oth 1 k9 i → rd (slotN 1 k a) k9 i j = rd a k9 i j) ∧ (∀ (k9 : Nat) (j : Int), sK k9 j ∨ (93 ≤ k9 ∧ k9 ≤ 98) ∨ (k9 = 40 ∧ j = 58) → rd (fori (fun t m => slM m n t) k u m) k9 0 j = rd m k9 0 j)
  | 0, _, _, _, _, _, h, _, _, _, _, _ => absurd h (by omega)
  | k + 1, u, a, m, u0, hu, _, hP, hC, hw, hI, hIC => by
    obtain ⟨c2, p2, w2, id2⟩ := slot_step hP (Or.inr rfl) hC hw n0 n1 u0 (by omega)
    obtain ⟨i2, ic2, -⟩ := slot_keep hI hIC (by omega) (by omega)
    have fr := fun (k9 : Nat) (i j : Int) (ho : oth 1 k9 i) => rdx_slot hI hP (Or.inr rfl) hC hw n0 n1 u0 (show u < 24 by omega) k9 i j ho
    have h5 : ¬ rd m 40 0 50 = 0 := by rw [hC.2.2.2.2.1]; decide
    have fm : ∀ (k9 : Nat) (j : Int), sK k9 j ∨ (93 ≤ k9 ∧ k9 ≤ 98) ∨ (k9 = 40 ∧ j = 58) → rd (slM m n u) k9 0 j = rd m k9 0 j := fun k9 j hk => by
      rcases hk with hk | hk
      · exact rd_slM _ _ _ _ _ _ hk
      · exact dat_slot _ _ _ h5 _ _ hk
    show PR (slotN 1 k (slotC a 1)) (fori (fun t m => slM m n t) k (u + 1) (slM m n u)) ∧ CR (slotN 1 k (slotC a 1)) (fori (fun t m => slM m n t) k (u + 1) (slM m n u)) 1 ∧ idR (slotN 1 k (slotC a 1)) 1 ∧ IA (slotN 1 k (slotC a 1)) ∧ IC (slotN 1 k (slotC a 1)) 1 ∧ (∀ (k9 : Nat) i j, oth 1 k9 i → rd (slotN 1 k (slotC a 1)) k9 i j = rd a k9 i j) ∧ (∀ (k9 : Nat) (j : Int), sK k9 j ∨ (93 ≤ k9 ∧ k9 ≤ 98) ∨ (k9 = 40 ∧ j = 58) → rd (fori (fun t m => slM m n t) k (u + 1) (slM m n u)) k9 0 j = rd m k9 0 j)
    by_cases q : k = 0
    · subst q
      exact ⟨p2, c2, id2 (by omega), i2, ic2, fr, fm⟩
    · obtain ⟨g1, g2, g3, g4, g5, g6, g7⟩ := slots_step n0 n1 k (u + 1) (slotC a 1) (slM m n u) (by omega) (by omega) (by omega) p2 c2 (by omega) i2 ic2
      exact ⟨g1, g2, g3, g4, g5, fun k9 i j ho => (g6 k9 i j ho).trans (fr k9 i j ho), fun k9 j hk => (g7 k9 j hk).trans (fm k9 j hk)⟩
theorem CR_back {a m a' m' : Mm} (hI : IM m) (h : CR a m 0) (ha : ∀ (k : Nat) (i j : Int), oth 1 k i → rd a' k i j = rd a k i j)
    (h24 : ∀ (k : Nat) (j : Int), k = 72 ∨ k = 73 ∨ k = 74 ∨ k = 83 ∨ k = 84 ∨ k = 85 → 0 ≤ j → j < 24 → rd m' k 0 j = rd m k 0 j) (h10 : ∀ j, 0 ≤ j → j < 10 → rd m' 75 0 j = rd m 75 0 j) (h4' : ∀ (k : Nat) (j : Int), k = 76 ∨ k = 77 → 0 ≤ j → j < 4 → rd m' k 0 j = rd m k 0 j) (h3' : ∀ (k : Nat) (j : Int), 78 ≤ k → k ≤ 82 → 0 ≤ j → j < 3 → rd m' k 0 j = rd m k 0 j)
    (hm : ∀ (k : Nat) (j : Int), (93 ≤ k ∧ k ≤ 98) ∨ k = 57 ∨ (k = 40 ∧ (j = 25 ∨ j = 30 ∨ j = 50 ∨ j = 58)) → rd m' k 0 j = rd m k 0 j) : CR a' m' 0 := by
  have hA : rd m 40 0 30 ≤ 10 := hI.2.2.1.2
  obtain ⟨⟨b1, b2, b3⟩, h2, h4, h5, z1, z2, z3⟩ := h
  refine ⟨⟨fun t t0 t1 => ?_, fun i i0 i1 => ?_, fun g g0 g1 => ?_⟩, fun s g0 g1 => ?_, fun t t0 t1 => ?_, fun s s' q0 q1 q2 q3 hne => ?_, ?_, fun c => by omega, fun _ => ?_⟩
  · rw [ha 21 _ _ (by unfold oth; omega), ha 22 _ _ (by unfold oth; omega), ha 23 _ _ (by unfold oth; omega), h24 72 _ (by omega) t0 t1, h24 73 _ (by omega) t0 t1, h24 74 _ (by omega) t0 t1]; exact b1 t t0 t1
  · rw [ha 24 _ _ (by unfold oth; omega), h10 i i0 i1]; exact b2 i i0 i1
  · rw [ha 25 _ _ (by unfold oth; omega), h4' 76 _ (by omega) g0 g1]; exact b3 g g0 g1
  · refine vR_of (h2 s g0 g1) (fun j _ _ => ha 31 _ j (by unfold oth; omega)) (h3' 80 s (by omega) (by omega) g0 g1) (h3' 81 s (by omega) (by omega) g0 g1) (h3' 82 s (by omega) (by omega) g0 g1) (fun t => hm 57 t (by omega)) (fun c g => ?_) (hm 40 25 (by omega)) (hm 40 30 (by omega))
    rcases h2 s g0 g1 with ⟨k1, -⟩ | ⟨k1, k2, k3, k4, k5, k6⟩ | ⟨k1, -⟩
    · omega
    · have hT : rd m 40 0 25 ≤ 24 := hI.2.1.2
      omega
    · rw [h10 _ (by omega) (by omega)]; exact g
  · exact wR_of (h4 t t0 t1) (fun j => ha 31 _ j (by unfold oth; omega)) (h24 83 t (by omega) t0 t1) (h24 84 t (by omega) t0 t1) (h24 85 t (by omega) t0 t1) (hm 57 t (by omega)) (hm 40 25 (by omega))
  · rw [h3' 80 s (by omega) (by omega) q0 q1, h3' 80 s' (by omega) (by omega) q2 q3]; exact h5 s s' q0 q1 q2 q3 hne
  · rw [hm 40 50 (by omega)]; exact z1
  · obtain ⟨f1, f2, f3, f4, f5⟩ := z3 rfl
    refine ⟨fun g g0 g1 => ?_, fun s g0 g1 => ?_, ?_, ?_, fun d q0 q1 => ?_⟩
    · rw [ha 32 _ _ (by unfold oth; omega), h4' 77 _ (by omega) g0 g1]; exact f1 g g0 g1
    · rw [ha 33 _ _ (by unfold oth; omega), ha 34 _ _ (by unfold oth; omega), h3' 78 _ (by omega) (by omega) g0 g1, h3' 79 _ (by omega) (by omega) g0 g1]; exact f2 s g0 g1
    · rw [ha 27 _ _ (by unfold oth; omega), hm 40 58 (by omega)]; exact f3
    · rw [hm 40 58 (by omega)]; exact f4
    · rw [hm 40 58 (by omega)] at q1
      exact daR_of (f5 d q0 q1) (fun j _ _ => ha 28 _ _ (by unfold oth; omega)) (fun k k0 k1 => hm k d (by omega)) (hm 40 25 (by omega))
theorem rep_step {a m : Mm} {n : Int} (h : FU a m) (n0 : 0 ≤ n) (n1 : n < 30) (hn : 24 * n < rd m 40 0 45) : FU (repM a n) (reFin m n) ∧ rd (repM a n) 26 1 9 = rd (reFin m n) 40 0 51 := by
  obtain ⟨p0, c0, w0, i0, ic0⟩ := pre_step h n0 n1 hn
  obtain ⟨p1, c1, id1, i1, ic1, fa, fm⟩ := slots_step n0 n1 24 0 _ _ (by decide) (by decide) (by decide) p0 c0 w0 i0 ic0
  have hMV := FU_MV h
  obtain ⟨hP, hC, hS, hL, hid, h8, hW, hI, h27⟩ := h
  have eA : repM a n = slotN 1 24 (resC a 1 n n) := rfl
  have eR : reRun m n = fori (fun t m => slM m n t) 24 0 (rePre m n) := rfl
  rw [← eA] at p1 c1 id1 i1 ic1 fa
  rw [← eR] at p1 c1 fm
  have ra : ∀ (k : Nat) (i j : Int), oth 1 k i → rd (repM a n) k i j = rd a k i j := fun k i j ho => (fa k i j ho).trans (res_o a n n0 n1 k i j ho)
  -- what keep has kept
  have r90 : ∀ j, rd (st (reRun m n) 40 0 50 0) 90 0 j = rd (kqM false m) 90 0 j := fun j => by
    rw [rd_st_ne (by decide), fm 90 j (Or.inl (by unfold sK; omega)), rePre_r _ _ _ _ _ (by omega), gb_o _ _ _ _ _ (by decide)]
  have back : ∀ (k : Nat) (j : Int), k < 72 ∨ (85 < k ∧ k ≠ 90) → ¬ (k = 40 ∧ (j = 50 ∨ j = 51)) → rd (reFin m n) k 0 j = rd m k 0 j := fun k j hk hk2 => by
    unfold reFin
    rw [show (Nat.beq 1 1) = true from rfl, kq_o _ _ _ _ _ hk, rd_st, if_neg (by omega)]
    have hk3 : sK k j ∨ (93 ≤ k ∧ k ≤ 98) ∨ (k = 40 ∧ j = 58) := by unfold sK; omega
    rw [fm k j hk3, rePre_r _ _ _ _ _ hk2, gb_o _ _ _ _ _ (by omega), kq_f _ _ _ _ (by omega)]
  have back2 : ∀ (k : Nat) (i j : Int), k < 72 → ¬ (k = 40 ∧ (j = 50 ∨ j = 51 ∨ j = 58)) → rd (reFin m n) k i j = rd m k i j := fun k i j hk hk2 => by
    unfold reFin
    rw [show (Nat.beq 1 1) = true from rfl, kq_o _ _ _ _ _ (Or.inl hk), rd_st, if_neg (by omega), eR]
    have : rd (fori (fun t m => slM m n t) 24 0 (rePre m n)) k i j = rd (rePre m n) k i j := fori_out 0 24 24 0 _ (by decide) (by decide) (fun t m9 _ _ _ _ => rd_slM _ _ _ _ _ _ (by unfold sK; omega))
    rw [this, rePre_r _ _ _ _ _ (by omega), gb_o _ _ _ _ _ (by omega), kq_f _ _ _ _ (by omega)]
  have e50 : rd (reFin m n) 40 0 50 = 0 := by
    unfold reFin
    rw [show (Nat.beq 1 1) = true from rfl, kq_o _ _ _ _ _ (by omega), rd_st, if_pos ⟨rfl, rfl, rfl⟩]; rfl
  have eT : reFin m n = kqM true (st (reRun m n) 40 0 50 0) := rfl
  have t24 : ∀ (k : Nat) (j : Int), k = 72 ∨ k = 73 ∨ k = 74 ∨ k = 83 ∨ k = 84 ∨ k = 85 → 0 ≤ j → j < 24 → rd (reFin m n) k 0 j = rd m k 0 j := fun k j hk j0 j1 => by
    rw [eT]
    rcases hk with rfl | rfl | rfl | rfl | rfl | rfl
    · rw [kq_t72 _ _ j0 j1, r90, kq_s72 _ _ j0 j1]
    · rw [kq_t73 _ _ j0 j1, r90, kq_s73 _ _ j0 j1]
    · rw [kq_t74 _ _ j0 j1, r90, kq_s74 _ _ j0 j1]
    · rw [kq_t83 _ _ j0 j1, r90, kq_s83 _ _ j0 j1]
    · rw [kq_t84 _ _ j0 j1, r90, kq_s84 _ _ j0 j1]
    · rw [kq_t85 _ _ j0 j1, r90, kq_s85 _ _ j0 j1]
  have t10 : ∀ j, 0 ≤ j → j < 10 → rd (reFin m n) 75 0 j = rd m 75 0 j := fun j j0 j1 => by rw [eT, kq_t75 _ _ j0 j1, r90, kq_s75 _ _ j0 j1]
  have t4 : ∀ (k : Nat) (j : Int), k = 76 ∨ k = 77 → 0 ≤ j → j < 4 → rd (reFin m n) k 0 j = rd m k 0 j := fun k j hk j0 j1 => by
    rw [eT]
    rcases hk with rfl | rfl
    · rw [kq_t76 _ _ j0 j1, r90, kq_s76 _ _ j0 j1]
    · rw [kq_t77 _ _ j0 j1, r90, kq_s77 _ _ j0 j1]
  have t3 : ∀ (k : Nat) (j : Int), 78 ≤ k → k ≤ 82 → 0 ≤ j → j < 3 → rd (reFin m n) k 0 j = rd m k 0 j := fun k j k0 k1 j0 j1 => by
    rw [eT]
    rcases (show k = 78 ∨ k = 79 ∨ k = 80 ∨ k = 81 ∨ k = 82 by omega) with rfl | rfl | rfl | rfl | rfl
    · rw [kq_t78 _ _ j0 j1, r90, kq_s78 _ _ j0 j1]
    · rw [kq_t79 _ _ j0 j1, r90, kq_s79 _ _ j0 j1]
    · rw [kq_t80 _ _ j0 j1, r90, kq_s80 _ _ j0 j1]
    · rw [kq_t81 _ _ j0 j1, r90, kq_s81 _ _ j0 j1]
    · rw [kq_t82 _ _ j0 j1, r90, kq_s82 _ _ j0 j1]
  have e45 : rd (reFin m n) 40 0 45 = rd m 40 0 45 := back 40 45 (by omega) (by omega)
  have h50 : rd m 40 0 50 = 0 := hC.2.2.2.2.1
  refine ⟨⟨PR_of hP (fun k i j hk => ra k i j (by unfold oth; omega)) (fun k i j hk => back2 k i j (by omega) (by omega)), CR_back hP.2.2 hC ra t24 t10 t4 t3 (fun k j hk => ?_), fun q q0 q1 => ?_, ?_, id1, ?_, ?_, i1, ic1.2.2⟩, ?_⟩
  · by_cases c : k = 40 ∧ j = 50
    · obtain ⟨rfl, rfl⟩ := c
      rw [e50, h50]
    · exact back k j (by omega) (by omega)
  · rw [e45] at q1
    obtain ⟨g1, g2, g3⟩ := hS q q0 q1
    refine ⟨fun t t0 t1 => ?_, fun i i0 i1 => ?_, fun g g0 g1 => ?_⟩
    · rw [ra 21 _ _ (by unfold oth; omega), ra 22 _ _ (by unfold oth; omega), ra 23 _ _ (by unfold oth; omega), back 88 _ (by omega) (by omega), back 89 _ (by omega) (by omega), t24 74 _ (by omega) t0 t1]; exact g1 t t0 t1
    · rw [ra 24 _ _ (by unfold oth; omega), t10 i i0 i1]; exact g2 i i0 i1
    · rw [ra 25 _ _ (by unfold oth; omega), back 87 _ (by omega) (by omega)]; exact g3 g g0 g1
  · rw [e45]
    refine ⟨fun t j t0 t1 j0 j1 hj => ?_, fun i i0 i1 => ?_⟩
    · rw [t24 74 _ (by omega) t0 t1] at hj; exact hL.1 t j t0 t1 j0 j1 hj
    · rw [t10 i i0 i1]; exact hL.2 i i0 i1
  · rw [e45, ra 26 _ _ (by unfold oth; omega)]; exact h8
  · rw [e45]; exact hW
  · rw [c1.2.2.2.2.2.1 rfl]
    unfold reFin
    rw [show (Nat.beq 1 1) = true from rfl, kq_o _ _ _ _ _ (by omega), rd_st, if_neg (by omega)]
