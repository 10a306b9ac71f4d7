/-! ===== mostFilled, bestOrder ===== -/
theorem fup_spec (P : Int → Prop) : ∀ (n : Nat) (c : Int), fup P n c = -1 ∨ P (fup P n c)
  | 0, c => Or.inl rfl
  | n + 1, c => by
    unfold fup
    by_cases hp : P c
    · rw [pif_t hp]; exact Or.inr hp
    · rw [pif_f hp]; exact fup_spec P n (c + 1)
theorem fb_le (mm : Mm) (a i n u : Int) (n0 : 0 ≤ n) (u0 : 0 ≤ u) (u1 : u ≤ 24) : fbC mm a i n u = -1 ∨ (0 ≤ fbC mm a i n u ∧ fbC mm a i n u + rd mm 18 a 3 ≤ 24) := by
  have h1 := fup_range (fun v => suitC mm 18 a i (n * 24 + v) (rd mm 18 a 3)) (24 - u).toNat u
  have h2 := fup_spec (fun v => suitC mm 18 a i (n * 24 + v) (rd mm 18 a 3)) (24 - u).toNat u
  change fbC mm a i n u = -1 ∨ (u ≤ fbC mm a i n u ∧ fbC mm a i n u < u + _) at h1
  change fbC mm a i n u = -1 ∨ suitC mm 18 a i (n * 24 + fbC mm a i n u) (rd mm 18 a 3) at h2
  rcases h2 with h2 | h2
  · exact Or.inl h2
  · rcases h1 with h1 | h1
    · exact Or.inl h1
    · have h3 := h2.1
      exact Or.inr ⟨by omega, by omega⟩
theorem bits_n : ∀ s : Fin 32, ∀ j : Fin 5, ¬ jand (s.val : Int) (jshl 1 (j.val : Int)) = 0 → 0 ≤ jxor (s.val : Int) (jshl 1 (j.val : Int)) ∧ jxor (s.val : Int) (jshl 1 (j.val : Int)) < (s.val : Int) := by decide +kernel
theorem bits_x {s j : Int} (s0 : 0 ≤ s) (s1 : s < 32) (j0 : 0 ≤ j) (j1 : j < 5) (h : ¬ jand s (jshl 1 j) = 0) : 0 ≤ jxor s (jshl 1 j) ∧ jxor s (jshl 1 j) < s := by
  have h1 := bits_n ⟨s.toNat, by omega⟩ ⟨j.toNat, by omega⟩
  have e1 : ((s.toNat : Nat) : Int) = s := by omega
  have e2 : ((j.toNat : Nat) : Int) = j := by omega
  simp only [e1, e2] at h1
  exact h1 h
theorem shl_n : ∀ k : Fin 6, wr (jshl 1 (k.val : Int)) = jshl 1 (k.val : Int) ∧ 1 ≤ jshl 1 (k.val : Int) ∧ jshl 1 (k.val : Int) ≤ 32 := by decide +kernel
theorem shl_r {k : Int} (k0 : 0 ≤ k) (k1 : k ≤ 5) : wr (jshl 1 k) = jshl 1 k ∧ 1 ≤ jshl 1 k ∧ jshl 1 k ≤ 32 := by
  have h1 := shl_n ⟨k.toNat, by omega⟩
  have e1 : ((k.toNat : Nat) : Int) = k := by omega
  simp only [e1] at h1
  exact h1
theorem wr_and (a b : Int) : wr (jand a b) = jand a b := wr_toInt _
noncomputable def mfB (m : Mm) (a n s j : Int) : Int := pif (rd m 4 0 (jxor s (jshl 1 j)) = -1) (-1) (fbC m (rd m 3 0 j) a n (rd m 4 0 (jxor s (jshl 1 j))))
def mfV (m : Mm) (j : Int) : Int := rd m 18 (rd m 3 0 j) 3
noncomputable def mfE (m : Mm) (a n s : Int) : Nat → Int → Int → Int
  | 0, _, e => e
  | q + 1, j, e => mfE m a n s q (j + 1) (pif (jand s (jshl 1 j) = 0) e (pif (¬ mfB m a n s j = -1 ∧ (e = -1 ∨ mfB m a n s j + mfV m j < e)) (mfB m a n s j + mfV m j) e))
noncomputable def mfL (m : Mm) (s : Int) : Nat → Int → Int → Int
  | 0, _, z => z
  | q + 1, j, z => mfL m s q (j + 1) (pif (jand s (jshl 1 j) = 0) z (z + mfV m j))
noncomputable def mfR (a n k : Int) : Nat → Int → Mm → Int → Int
  | 0, _, _, r => r
  | q + 1, s, m, r => mfR a n k q (s + 1) (st m 4 0 s (wr (mfE m a n s k.toNat 0 (-1)))) (pif (¬ mfE m a n s k.toNat 0 (-1) = -1 ∧ r < mfL m s k.toNat 0 0) (mfL m s k.toNat 0 0) r)
noncomputable def mfM (a n k : Int) : Nat → Int → Mm → Mm
  | 0, _, m => m
  | q + 1, s, m => mfM a n k q (s + 1) (st m 4 0 s (wr (mfE m a n s k.toNat 0 (-1))))
noncomputable def mstR (mm : Mm) (a n k : Int) : Int := mfR a n k (jshl 1 k - 1).toNat 1 (st mm 4 0 0 (wr 0)) 0
noncomputable def mstM (mm : Mm) (a n k : Int) : Mm := mfM a n k (jshl 1 k - 1).toNat 1 (st mm 4 0 0 (wr 0))
theorem IA_of4 {m m' : Mm} (h : IA m) (hk : ∀ (k : Nat) (i j : Int), k = 5 ∨ k = 17 ∨ k = 18 ∨ k = 19 → rd m' k i j = rd m k i j) : IA m' := by
  unfold IA tOK aOK at h ⊢
  simp only [hk 18 _ _ (by decide), hk 19 _ _ (by decide), hk 17 _ _ (by decide), hk 5 _ _ (by decide)]
  exact h
/-- what the walk knows of the memory: s sets are done -/
def mfO (m : Mm) (k s : Int) : Prop := IA m ∧ (∀ j, 0 ≤ j → j < k → 0 ≤ rd m 3 0 j ∧ rd m 3 0 j < 24) ∧ (∀ z, 0 ≤ z → z < s → -1 ≤ rd m 4 0 z ∧ rd m 4 0 z ≤ 24)
theorem mfB_le {m : Mm} {a n k s j : Int} (h : mfO m k s) (n0 : 0 ≤ n) (x0 : 0 ≤ jxor s (jshl 1 j)) (x1 : jxor s (jshl 1 j) < s) : mfB m a n s j = -1 ∨ (0 ≤ mfB m a n s j ∧ mfB m a n s j + mfV m j ≤ 24) := by
  unfold mfB
  by_cases q : rd m 4 0 (jxor s (jshl 1 j)) = -1
  · rw [pif_t q]; exact Or.inl rfl
  · rw [pif_f q]
    have h1 := h.2.2 _ x0 x1
    exact fb_le m _ a n _ n0 (by omega) (by omega)
theorem mfV_r {m : Mm} {k s j : Int} (h : mfO m k s) (j0 : 0 ≤ j) (j1 : j < k) : 0 ≤ mfV m j ∧ mfV m j ≤ 6 := by
  obtain ⟨h0, h1⟩ := h.2.1 j j0 j1
  obtain ⟨-, q, -⟩ := h.1.1 _ h0 h1
  exact q
theorem mfE_r {m : Mm} {a n k s : Int} (h : mfO m k s) (n0 : 0 ≤ n) (k1 : k ≤ 5) (s0 : 0 ≤ s) (s1 : s < 32) : ∀ (q : Nat) (j e : Int), 0 ≤ j → j + q = k → -1 ≤ e → e ≤ 24 → -1 ≤ mfE m a n s q j e ∧ mfE m a n s q j e ≤ 24 := by
  intro q
  induction q with
  | zero => intro j e _ _ e0 e1; exact ⟨e0, e1⟩
  | succ q ih =>
    intro j e j0 hj e0 e1
    unfold mfE
    by_cases hb : jand s (jshl 1 j) = 0
    · rw [pif_t hb]; exact ih (j + 1) e (by omega) (by omega) e0 e1
    · rw [pif_f hb]
      obtain ⟨x0, x1⟩ := bits_x s0 s1 j0 (by omega) hb
      have hB := mfB_le (a := a) h n0 x0 x1
      have hV := mfV_r h j0 (by omega)
      by_cases hc : ¬ mfB m a n s j = -1 ∧ (e = -1 ∨ mfB m a n s j + mfV m j < e)
      · rw [pif_t hc]
        have h9 := hc.1
        exact ih (j + 1) _ (by omega) (by omega) (by omega) (by omega)
      · rw [pif_f hc]; exact ih (j + 1) e (by omega) (by omega) e0 e1
theorem mfL_r {m : Mm} {k s : Int} (h : mfO m k s) : ∀ (q : Nat) (j z : Int), 0 ≤ j → j + q = k → 0 ≤ z → z ≤ 6 * j → 0 ≤ mfL m s q j z ∧ mfL m s q j z ≤ 6 * k := by
  intro q
  induction q with
  | zero => intro j z _ hj e0 e1; exact ⟨e0, by show z ≤ 6 * k; omega⟩
  | succ q ih =>
    intro j z j0 hj e0 e1
    unfold mfL
    have hV := mfV_r h j0 (by omega)
    by_cases hb : jand s (jshl 1 j) = 0
    · rw [pif_t hb]; exact ih (j + 1) z (by omega) (by omega) e0 (by omega)
    · rw [pif_f hb]; exact ih (j + 1) _ (by omega) (by omega) (by omega) (by omega)
set_option maxRecDepth 100000 in
set_option maxHeartbeats 400000 in
theorem M_mostFilled (a n k : Int) (mm : Mm) (o : Int64) (hI : IA mm) (n0 : 0 ≤ n) (n1 : n < 30) (k0 : 0 ≤ k) (k1 : k ≤ 5) (hf : ∀ j, 0 ≤ j → j < k → 0 ≤ rd mm 3 0 j ∧ rd mm 3 0 j < 24) : MetX iX10_mostFilled [xr 1 0, xr 11 a, xi n, xi k] mm o (rto (xi (mstR mm a n k)) (mstM mm a n k) o) := by
  refine MetX.of 1 (by decide +kernel) rfl (Nat.le_of_ble_eq_true rfl) ⟨by decide, by decide⟩ ?_
  intro p l e s m args below meth c Q V D ad A hC hN hok hF
  obtain ⟨w1, w2, w3⟩ := shl_r k0 k1
  have inner : ∀ (q : Nat) (j z e9 s9 r : Int) (m9 : Mm), 0 ≤ j → j + q = k → 1 ≤ s9 → s9 < jshl 1 k → mfO m9 k s9 → -1 ≤ e9 → e9 ≤ 24 → 0 ≤ z → z ≤ 6 * j →
      Wx p l e (mrm iX10_mostFilled) s m args below meth c 0 0 Q V D ad A 12 156 [(0, xr 1 0), (1, xr 11 a), (2, xi n), (3, xi k), (4, xi r), (5, xi s9), (6, xi (mfL m9 s9 q j z)), (7, xi (mfE m9 a n s9 q j e9))] [] m9 o →
      Wx p l e (mrm iX10_mostFilled) s m args below meth c 0 0 Q V D ad A 12 30 [(0, xr 1 0), (1, xr 11 a), (2, xi n), (3, xi k), (4, xi r), (5, xi s9), (6, xi z), (7, xi e9), (8, xi j)] [] m9 o := by
    intro q
    induction q with
    | zero =>
      intro j z e9 s9 r m9 j0 hj s0 s1 hO e0 e1 z0 z1 hk
      refine wpx hC tkX10_mostFilled hF [30, 156] 200 ?_
      refine ⟨fun q => Wx.pick [0, 1, 2, 3, 4, 5, 6, 7] rfl hk, fun q => ?_⟩
      rw [wr_of (by omega) (by omega), wr_of (by omega) (by omega)] at q; omega
    | succ q ih =>
      intro j z e9 s9 r m9 j0 hj s0 s1 hO e0 e1 z0 z1 hk
      obtain ⟨f0, f1⟩ := hO.2.1 j j0 (by omega)
      obtain ⟨-, ⟨l0, l1⟩, ⟨i0, i1⟩, -, -⟩ := hO.1.1 _ f0 f1
      refine wpx hC tkX10_mostFilled hF [30, 150, 113] 200 ?_
      refine ⟨fun q => ?_, fun _ => ⟨fun q2 => ?_, fun q2 => ?_⟩⟩
      · rw [wr_of (by omega) (by omega), wr_of (by omega) (by omega)] at q; omega
      · rw [wr_and] at q2
        obtain ⟨x0, x1⟩ := bits_x (by omega) (by omega) j0 (by omega) q2
        have hx := hO.2.2 _ x0 x1
        have hB := mfB_le (a := a) hO n0 x0 x1
        have hV := mfV_r hO j0 (by omega)
        have eL : mfL m9 s9 (q + 1) j z = mfL m9 s9 q (j + 1) (z + mfV m9 j) := congrArg (mfL m9 s9 q (j + 1)) (pif_f q2)
        have fin : ∀ b, b = mfB m9 a n s9 j → Wx p l e (mrm iX10_mostFilled) s m args below meth c 0 0 Q V D ad A 12 113 [(0, xr 1 0), (1, xr 11 a), (2, xi n), (3, xi k), (4, xi r), (5, xi s9), (6, xi (z + mfV m9 j)), (7, xi e9), (8, xi j), (9, xr 18 (rd m9 3 0 j))] [xi b] m9 o := by
          intro b hb
          have step : ∀ e8, e8 = pif (¬ mfB m9 a n s9 j = -1 ∧ (e9 = -1 ∨ mfB m9 a n s9 j + mfV m9 j < e9)) (mfB m9 a n s9 j + mfV m9 j) e9 → -1 ≤ e8 → e8 ≤ 24 → Wx p l e (mrm iX10_mostFilled) s m args below meth c 0 0 Q V D ad A 12 150 [(0, xr 1 0), (1, xr 11 a), (2, xi n), (3, xi k), (4, xi r), (5, xi s9), (6, xi (z + mfV m9 j)), (7, xi e8), (8, xi j)] [] m9 o := by
            intro e8 h8 h80 h81
            refine wpx hC tkX10_mostFilled hF [30] 200 ?_
            refine ih (j + 1) (z + mfV m9 j) e8 s9 r m9 (by omega) (by omega) s0 s1 hO h80 h81 (by omega) (by omega) ?_
            have eE : mfE m9 a n s9 (q + 1) j e9 = mfE m9 a n s9 q (j + 1) e8 := congrArg (mfE m9 a n s9 q (j + 1)) ((pif_f q2).trans h8.symm)
            rw [eL, eE] at hk
            exact hk
          subst hb
          refine wpx hC tkX10_mostFilled hF [150] 200 ?_
          refine ⟨fun q3 => ?_, fun q3 => ⟨fun q4 => ?_, fun q4 => ⟨fun q5 => ?_, fun q5 => ?_⟩⟩⟩
          · rw [wr_of (by omega) (by omega), wr_m1] at q3
            exact Wx.pick [0, 1, 2, 3, 4, 5, 6, 7, 8] rfl (step e9 (pif_f (fun h => h.1 q3)).symm e0 e1)
          · rw [wr_of (by omega) (by omega), wr_m1] at q3
            rw [wr_of (by omega) (by omega), wr_m1] at q4
            exact Wx.pick [0, 1, 2, 3, 4, 5, 6, 7, 8] rfl (step (mfB m9 a n s9 j + mfV m9 j) (pif_t ⟨q3, Or.inl q4⟩).symm (by omega) (by omega))
          · rw [wr_of (by omega) (by omega), wr_m1] at q3
            rw [wr_of (by omega) (by omega), wr_m1] at q4
            replace q5 : wr e9 ≤ wr (mfB m9 a n s9 j + mfV m9 j) := q5
            rw [wr_of (by omega) (by omega), wr_of (by omega) (by omega)] at q5
            exact Wx.pick [0, 1, 2, 3, 4, 5, 6, 7, 8] rfl (step e9 (pif_f (fun h => by omega)).symm e0 e1)
          · rw [wr_of (by omega) (by omega), wr_m1] at q3
            rw [wr_of (by omega) (by omega), wr_m1] at q4
            replace q5 : ¬ wr e9 ≤ wr (mfB m9 a n s9 j + mfV m9 j) := q5
            rw [wr_of (by omega) (by omega), wr_of (by omega) (by omega)] at q5
            exact Wx.pick [0, 1, 2, 3, 4, 5, 6, 7, 8] rfl (step (mfB m9 a n s9 j + mfV m9 j) (pif_t ⟨q3, Or.inr (by omega)⟩).symm (by omega) (by omega))
        refine ⟨⟨j0, by show j < (5 : Int); omega⟩, ⟨f0, f1⟩, ⟨x0, by show _ < (32 : Int); omega⟩, fun q3 => ?_, fun q3 => ?_⟩
        · rw [wr_rd, wr_m1] at q3
          refine Wx.callV (x := iX10_mostFilled) (y := iX5_firstBegin) (k := 5) (avs := [_, _, _, _]) (rest := []) hC hN tkX10_mostFilled rfl rfl kX5_firstBegin rfl (M_firstBegin _ _ _ _ _ _ n0 n1 (by omega) (by omega) l0 (by omega) i0 i1) ⟨rfl, rfl⟩ rfl (Nat.le_of_ble_eq_true rfl) (by exact nol rfl) ?_
          rintro r mm' o' ⟨rfl, rfl, rfl⟩
          exact Wx.pick [0, 1, 2, 3, 4, 5, 6, 7, 8, 9] rfl (fin _ (pif_f q3).symm)
        · rw [wr_rd, wr_m1] at q3
          exact Wx.pick [0, 1, 2, 3, 4, 5, 6, 7, 8, 9] rfl (fin _ (pif_t q3).symm)
      · rw [wr_and] at q2
        refine wpx hC tkX10_mostFilled hF [30] 200 ?_
        refine ih (j + 1) z e9 s9 r m9 (by omega) (by omega) s0 s1 hO e0 e1 z0 (by omega) ?_
        have eL : mfL m9 s9 (q + 1) j z = mfL m9 s9 q (j + 1) z := congrArg (mfL m9 s9 q (j + 1)) (pif_t q2)
        have eE : mfE m9 a n s9 (q + 1) j e9 = mfE m9 a n s9 q (j + 1) e9 := congrArg (mfE m9 a n s9 q (j + 1)) (pif_t q2)
        rw [eL, eE] at hk
        exact hk
  have outer : ∀ (q : Nat) (s9 r : Int) (m9 : Mm), 1 ≤ s9 → s9 + q = jshl 1 k → mfO m9 k s9 → 0 ≤ r → r ≤ 30 → mfR a n k q s9 m9 r = mstR mm a n k → mfM a n k q s9 m9 = mstM mm a n k → Wx p l e (mrm iX10_mostFilled) s m args below meth c 0 0 Q V D ad A 12 13 [(0, xr 1 0), (1, xr 11 a), (2, xi n), (3, xi k), (4, xi r), (5, xi s9)] [] m9 o := by
    intro q
    induction q with
    | zero =>
      intro s9 r m9 s0 hs hO r0 r1 e1 e2
      refine wpx hC tkX10_mostFilled hF [13] 200 ?_
      refine ⟨fun q => ⟨congrArg (fun z => some (xi z)) e1, e2.symm, rfl⟩, fun q => ?_⟩
      rw [w1, wr_of (by omega) (by omega)] at q; omega
    | succ q ih =>
      intro s9 r m9 s0 hs hO r0 r1 e1 e2
      have hE := mfE_r (a := a) hO n0 k1 (by omega) (by omega) k.toNat 0 (-1) (by decide) (by omega) (by decide) (by decide)
      have hL := mfL_r hO k.toNat 0 0 (by decide) (by omega) (by decide) (by decide)
      have step : ∀ r8, r8 = pif (¬ mfE m9 a n s9 k.toNat 0 (-1) = -1 ∧ r < mfL m9 s9 k.toNat 0 0) (mfL m9 s9 k.toNat 0 0) r → 0 ≤ r8 → r8 ≤ 30 → Wx p l e (mrm iX10_mostFilled) s m args below meth c 0 0 Q V D ad A 12 182 [(0, xr 1 0), (1, xr 11 a), (2, xi n), (3, xi k), (4, xi r8), (5, xi s9)] [] (st m9 4 0 s9 (wr (mfE m9 a n s9 k.toNat 0 (-1)))) o := by
        intro r8 h8 h80 h81
        refine wpx hC tkX10_mostFilled hF [13] 200 ?_
        refine ih (s9 + 1) r8 _ (by omega) (by omega) ⟨IA_of4 hO.1 (fun k i j hk => rd_st_ne (by omega)), fun j j0 j1 => ?_, fun z z0 z1 => ?_⟩ h80 h81 (by rw [← e1, h8]; rfl) (by rw [← e2]; rfl)
        · rw [rd_st_ne (by decide)]; exact hO.2.1 j j0 j1
        · rw [rd_st]
          by_cases hz : z = s9
          · rw [if_pos ⟨rfl, rfl, hz⟩, wr_wr, wr_of (by omega) (by omega)]; exact hE
          · rw [if_neg (fun h => hz h.2.2)]; exact hO.2.2 z z0 (by omega)
      refine wpx hC tkX10_mostFilled hF [13, 30] 200 ?_
      refine ⟨fun q => ?_, fun _ => ?_⟩
      · rw [w1, wr_of (by omega) (by omega)] at q; omega
      refine inner k.toNat 0 0 (-1) s9 r m9 (by decide) (by omega) s0 (by omega) hO (by decide) (by decide) (by decide) (by decide) ?_
      refine wpx hC tkX10_mostFilled hF [13, 182] 200 ?_
      refine ⟨⟨by omega, by show s9 < (32 : Int); omega⟩, fun q3 => ?_, fun q3 => ⟨fun q4 => ?_, fun q4 => ?_⟩⟩
      · rw [wr_of (by omega) (by omega), wr_m1] at q3
        exact Wx.pick [0, 1, 2, 3, 4, 5] rfl (step r (pif_f (fun h => h.1 q3)).symm r0 r1)
      · rw [wr_of (by omega) (by omega), wr_m1] at q3
        rw [wr_of (by omega) (by omega), wr_of (by omega) (by omega)] at q4
        exact Wx.pick [0, 1, 2, 3, 4, 5] rfl (step r (pif_f (fun h => by omega)).symm r0 r1)
      · rw [wr_of (by omega) (by omega), wr_m1] at q3
        rw [wr_of (by omega) (by omega), wr_of (by omega) (by omega)] at q4
        exact Wx.pick [0, 1, 2, 3, 4, 5] rfl (step _ (pif_t ⟨q3, by omega⟩).symm (by omega) (by omega))
  refine wpx hC tkX10_mostFilled hF [13] 200 ?_
  refine ⟨⟨by decide, by decide⟩, ?_⟩
  refine outer (jshl 1 k - 1).toNat 1 0 _ (by decide) (by omega) ⟨IA_of4 hI (fun k i j hk => rd_st_ne (by omega)), fun j j0 j1 => by rw [rd_st_ne (by decide)]; exact hf j j0 j1, fun z z0 z1 => ?_⟩ (by decide) (by decide) rfl rfl
  have hz : z = 0 := by omega
  subst hz
  rw [rd_st, if_pos ⟨rfl, rfl, rfl⟩]
  decide
noncomputable def fwK (a b : Int) : Nat → Int → Int → Mm → Int
  | 0, _, k, _ => k
  | n + 1, i, k, m => pif (k < 5) (pif (wantC m (30 + 0) i b ∧ ¬ fbC m i a b 0 = -1) (fwK a b n (i + 1) (k + 1) (st m 3 0 k (wr i))) (fwK a b n (i + 1) k m)) k
noncomputable def fwM (a b : Int) : Nat → Int → Int → Mm → Mm
  | 0, _, _, m => m
  | n + 1, i, k, m => pif (k < 5) (pif (wantC m (30 + 0) i b ∧ ¬ fbC m i a b 0 = -1) (fwM a b n (i + 1) (k + 1) (st m 3 0 k (wr i))) (fwM a b n (i + 1) k m)) m
noncomputable def bstR (mm : Mm) (a b : Int) : Int := mstR (fwM a b (rd mm 5 0 7).toNat 0 0 mm) a b (fwK a b (rd mm 5 0 7).toNat 0 0 mm)
noncomputable def bstM (mm : Mm) (a b : Int) : Mm := mstM (fwM a b (rd mm 5 0 7).toNat 0 0 mm) a b (fwK a b (rd mm 5 0 7).toNat 0 0 mm)
set_option maxRecDepth 100000 in
set_option maxHeartbeats 400000 in
theorem M_bestOrder (mm : Mm) (o : Int64) (a b : Int) (ha : wr a = a) (hb : wr b = b) (hI : IA mm) : MetT iX10_bestOrder 2 [xr 1 0, xi a, xi b] mm o (tF (ck (ixC a 3) (ixC b 30)) (rto (xi (bstR mm a b)) (bstM mm a b) o)) (tG (ck (ixC a 3) (ixC b 30)) mm o) := by
  refine MetT.of 1 (by decide +kernel) rfl (Nat.le_of_ble_eq_true rfl) ⟨by decide, by decide⟩ ?_
  intro p l e s m args below meth c V D ad hC hN hT hst hex hok hF
  have hn0 := hI.2.2.2.2.1.1
  have hn1 := hI.2.2.2.2.1.2
  refine wpt0 hC tkX10_bestOrder hF [] 200 ?_
  refine Wx.tcallS (x := iX10_bestOrder) (y := iX10_needIndex) (j := 0) (k' := 1) (avs := [_, _]) (rest := []) hC hN hT hst hex tkX10_bestOrder rfl rfl rfl kX10_needIndex rfl (M_needIndex _ _ _ _ ha rfl) rfl (Nat.le_of_ble_eq_true rfl) (by exact nol rfl) (by decide) ?_ ?_
  · rintro E mm' o' ⟨q, rfl, rfl⟩
    exact ⟨ck_l q, rfl, rfl⟩
  rintro r mm' o' ⟨c1, rfl, rfl, rfl⟩
  refine wpt (n := 1) hC tkX10_bestOrder hF (by decide) [] 200 ?_
  refine Wx.tcallS (x := iX10_bestOrder) (y := iX10_needIndex) (j := 1) (k' := 1) (avs := [_, _]) (rest := []) hC hN hT hst hex tkX10_bestOrder rfl rfl rfl kX10_needIndex rfl (M_needIndex _ _ _ _ hb rfl) rfl (Nat.le_of_ble_eq_true rfl) (by exact nol rfl) (by decide) ?_ ?_
  · rintro E mm' o' ⟨q, rfl, rfl⟩
    exact ⟨ck_r c1 (q), rfl, rfl⟩
  rintro r mm' o' ⟨c2, rfl, rfl, rfl⟩
  refine wpt (n := 2) hC tkX10_bestOrder hF (by decide) [16] 200 ?_
  obtain ⟨a0, a1⟩ := ix_of c1
  obtain ⟨b0, b1⟩ := ix_of c2
  have done : ∀ (k i : Int) (m9 : Mm), IA m9 → 0 ≤ k → k ≤ 5 → (∀ j, 0 ≤ j → j < k → 0 ≤ rd m9 3 0 j ∧ rd m9 3 0 j < 24) → k = fwK a b (rd mm 5 0 7).toNat 0 0 mm → m9 = fwM a b (rd mm 5 0 7).toNat 0 0 mm → Wx p l e (mrmT iX10_bestOrder 2) s m args below meth c 2 (6 * 2) (TQ below V D ad (tF (ck (ixC a 3) (ixC b 30)) (rto (xi (bstR mm a b)) (bstM mm a b) o)) (tG (ck (ixC a 3) (ixC b 30)) mm o) args s 2) V D ad (wA V ad s.heap.size) 6 102 [(0, xr 1 0), (1, xi a), (2, xi b), (3, xi k)] [] m9 o := by
    intro k i m9 hI9 k0 k1 hf ek em
    refine wpt (n := 2) hC tkX10_bestOrder hF (by decide) [] 200 ?_
    refine ⟨⟨a0, a1⟩, ?_⟩
    refine Wx.gcallV (y := iX10_mostFilled) (k := 1) (avs := [_, _, _]) (rest := []) hC hN ⟨by decide, by decide⟩ tkX10_bestOrder rfl rfl kX10_mostFilled ⟨by decide, by decide⟩ (M_mostFilled _ _ _ _ _ hI9 b0 b1 k0 k1 hf) ⟨rfl, rfl⟩ rfl (Nat.le_of_ble_eq_true rfl) (by exact nol rfl) ?_
    rintro r mm' o' ⟨rfl, rfl, rfl⟩
    refine wpt (n := 2) hC tkX10_bestOrder hF (by decide) [] 200 ?_
    exact ⟨(ck_r c1 (c2)), by rw [ek, em]; rfl, by rw [ek, em]; rfl, rfl⟩
  have loop : ∀ (q : Nat) (i k : Int) (m9 : Mm), 0 ≤ i → i + q = rd m9 5 0 7 → IA m9 → 0 ≤ k → k ≤ 5 → (∀ j, 0 ≤ j → j < k → 0 ≤ rd m9 3 0 j ∧ rd m9 3 0 j < 24) → fwK a b q i k m9 = fwK a b (rd mm 5 0 7).toNat 0 0 mm → fwM a b q i k m9 = fwM a b (rd mm 5 0 7).toNat 0 0 mm → Wx p l e (mrmT iX10_bestOrder 2) s m args below meth c 2 (6 * 2) (TQ below V D ad (tF (ck (ixC a 3) (ixC b 30)) (rto (xi (bstR mm a b)) (bstM mm a b) o)) (tG (ck (ixC a 3) (ixC b 30)) mm o) args s 2) V D ad (wA V ad s.heap.size) 6 16 [(0, xr 1 0), (1, xi a), (2, xi b), (3, xi k), (4, xi i)] [] m9 o := by
    intro q
    induction q with
    | zero =>
      intro i k m9 i0 hi hI9 k0 k1 hf ek em
      have hm1 := hI9.2.2.2.2.1.2
      refine wpt (n := 2) hC tkX10_bestOrder hF (by decide) [16, 102] 200 ?_
      refine ⟨fun q => Wx.pick [0, 1, 2, 3] rfl (done k i m9 hI9 k0 k1 hf ek em), fun q => ?_⟩
      rw [wr_rd, wr_of (by omega) (by omega)] at q; omega
    | succ q ih =>
      intro i k m9 i0 hi hI9 k0 k1 hf ek em
      have hm1 := hI9.2.2.2.2.1.2
      obtain ⟨-, ⟨l0, l1⟩, ⟨i3, i4⟩, t9, -⟩ := hI9.1 i i0 (by omega)
      refine wpt (n := 2) hC tkX10_bestOrder hF (by decide) [16, 102, 96] 200 ?_
      refine ⟨fun q => ?_, fun _ => ⟨fun q2 => ?_, fun q2 => ⟨⟨i0, by show i < (24 : Int); omega⟩, ?_⟩⟩⟩
      · rw [wr_rd, wr_of (by omega) (by omega)] at q; omega
      · rw [show wr 5 = 5 from rfl, wr_of (by omega) (by omega)] at q2
        exact Wx.pick [0, 1, 2, 3] rfl (done k i m9 hI9 k0 k1 hf (by rw [← ek]; exact (pif_f (by omega)).symm) (by rw [← em]; exact (pif_f (by omega)).symm))
      rw [show wr 5 = 5 from rfl, wr_of (by omega) (by omega)] at q2
      have hk5 : k < 5 := by omega
      have skip : ¬ (wantC m9 (30 + 0) i b ∧ ¬ fbC m9 i a b 0 = -1) → Wx p l e (mrmT iX10_bestOrder 2) s m args below meth c 2 (6 * 2) (TQ below V D ad (tF (ck (ixC a 3) (ixC b 30)) (rto (xi (bstR mm a b)) (bstM mm a b) o)) (tG (ck (ixC a 3) (ixC b 30)) mm o) args s 2) V D ad (wA V ad s.heap.size) 6 96 [(0, xr 1 0), (1, xi a), (2, xi b), (3, xi k), (4, xi i)] [] m9 o := by
        intro hno
        refine wpt (n := 2) hC tkX10_bestOrder hF (by decide) [16] 200 ?_
        exact ih (i + 1) k m9 (by omega) (by omega) hI9 k0 k1 hf (by rw [← ek]; exact ((pif_t hk5).trans (pif_f hno)).symm) (by rw [← em]; exact ((pif_t hk5).trans (pif_f hno)).symm)
      refine Wx.gcallV (y := iX3_isWanted) (k := 20) (avs := [_, _]) (rest := []) hC hN ⟨by decide, by decide⟩ tkX10_bestOrder rfl rfl kX3_isWanted ⟨by decide, by decide⟩ (M_isWanted _ _ _ _ _ t9.1 t9.2) ⟨rfl, rfl⟩ rfl (Nat.le_of_ble_eq_true rfl) (by exact nol rfl) ?_
      rintro r mm' o' ⟨rfl, rfl, rfl⟩
      refine wpt (n := 2) hC tkX10_bestOrder hF (by decide) [16, 96] 200 ?_
      refine ⟨fun q3 => ?_, fun q3 => ⟨⟨a0, a1⟩, ?_⟩⟩
      · rw [wr_bz, bz_0] at q3
        exact Wx.pick [0, 1, 2, 3, 4] rfl (skip (fun h => q3 h.1))
      rw [wr_bz, bz_0] at q3
      refine Wx.gcallV (y := iX5_firstBegin) (k := 5) (avs := [_, _, _, _]) (rest := []) hC hN ⟨by decide, by decide⟩ tkX10_bestOrder rfl rfl kX5_firstBegin ⟨by decide, by decide⟩ (M_firstBegin _ _ _ _ _ _ b0 b1 (by decide) (by decide) l0 (by omega) i3 i4) ⟨rfl, rfl⟩ rfl (Nat.le_of_ble_eq_true rfl) (by exact nol rfl) ?_
      rintro r mm' o' ⟨rfl, rfl, rfl⟩
      have hB := fb_le m9 i a b 0 b0 (by decide) (by decide)
      refine wpt (n := 2) hC tkX10_bestOrder hF (by decide) [16, 96] 200 ?_
      refine ⟨fun q4 => ?_, fun q4 => ⟨⟨k0, hk5⟩, ?_⟩⟩
      · rw [wr_of (by omega) (by omega), wr_m1] at q4
        exact Wx.pick [0, 1, 2, 3, 4] rfl (skip (fun h => h.2 q4))
      rw [wr_of (by omega) (by omega), wr_m1] at q4
      have hyes : wantC m9 (30 + 0) i b ∧ ¬ fbC m9 i a b 0 = -1 := ⟨Classical.not_not.mp q3, q4⟩
      refine wpt (n := 2) hC tkX10_bestOrder hF (by decide) [16] 200 ?_
      refine Wx.pick [0, 1, 2, 3, 4] rfl (ih (i + 1) (k + 1) _ (by omega) ?_ (IA_of4 hI9 (fun k i j hk => rd_st_ne (by omega))) (by omega) (by omega) (fun j j0 j1 => ?_) (by rw [← ek]; exact ((pif_t hk5).trans (pif_t hyes)).symm) (by rw [← em]; exact ((pif_t hk5).trans (pif_t hyes)).symm))
      · rw [rd_st_ne (by decide)]; omega
      · rw [rd_st]
        by_cases hj : j = k
        · rw [if_pos ⟨rfl, rfl, hj⟩, wr_wr, wr_of (by omega) (by omega)]; omega
        · rw [if_neg (fun h => hj h.2.2)]; exact hf j j0 (by omega)
  exact loop (rd mm 5 0 7).toNat 0 0 mm (by decide) (by omega) hI (by decide) (by decide) (fun j j0 j1 => by omega) rfl rfl
