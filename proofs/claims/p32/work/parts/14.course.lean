/-! ===== what the writers leave; keep, alerts, resuming, choosing ===== -/
theorem rd_begin (mm : Mm) (v kd nm : Int) (k : Nat) (i j : Int) (h : ¬ (k = 31 ∧ i = v)) : rd (beginC mm v kd nm) k i j = rd mm k i j := by
  unfold beginC
  rw [rd_st, if_neg (fun q => h ⟨q.1, q.2.1⟩), rd_st, if_neg (fun q => h ⟨q.1, q.2.1⟩), rd_st, if_neg (fun q => h ⟨q.1, q.2.1⟩), rd_st, if_neg (fun q => h ⟨q.1, q.2.1⟩)]
theorem rd_begin0 (mm : Mm) (v kd nm : Int) : rd (beginC mm v kd nm) 31 v 0 = wr kd := by
  unfold beginC
  simp [rd_st, wr_wr]
theorem rd_begin1 (mm : Mm) (v kd nm : Int) : rd (beginC mm v kd nm) 31 v 1 = wr nm := by
  unfold beginC
  simp [rd_st, wr_wr]
theorem rd_begin2 (mm : Mm) (v kd nm : Int) : rd (beginC mm v kd nm) 31 v 2 = 0 := by
  unfold beginC
  simp [rd_st]; rfl
theorem rd_begin3 (mm : Mm) (v kd nm : Int) : rd (beginC mm v kd nm) 31 v 3 = 0 := by
  unfold beginC
  simp [rd_st]; rfl
theorem rd_begin4 (mm : Mm) (v kd nm : Int) : rd (beginC mm v kd nm) 31 v 4 = rd mm 31 v 4 := by
  unfold beginC
  simp [rd_st]
theorem rd_take (mm : Mm) (v w : Int) (k : Nat) (i j : Int) (h : ¬ (k = 31 ∧ (i = v ∨ i = w))) : rd (takeC mm v w) k i j = rd mm k i j := by
  unfold takeC tk1
  rw [rd_begin _ _ _ _ _ _ _ (fun q => h ⟨q.1, Or.inr q.2⟩)]
  rw [rd_st, if_neg (fun q => h ⟨q.1, Or.inl q.2.1⟩), rd_st, if_neg (fun q => h ⟨q.1, Or.inl q.2.1⟩), rd_st, if_neg (fun q => h ⟨q.1, Or.inl q.2.1⟩), rd_st, if_neg (fun q => h ⟨q.1, Or.inl q.2.1⟩)]
theorem rd_takeV (mm : Mm) (v w : Int) (h : v ≠ w) (j : Int) (hj : j = 0 ∨ j = 1 ∨ j = 2 ∨ j = 3) : rd (takeC mm v w) 31 v j = rd mm 31 w j := by
  unfold takeC tk1
  rw [rd_begin _ _ _ _ _ _ _ (fun q => h q.2)]
  have hw : ¬ w = v := fun q => h q.symm
  rcases hj with rfl | rfl | rfl | rfl <;> simp [rd_st, hw, wr_rd]
theorem rd_takeV4 (mm : Mm) (v w : Int) (h : v ≠ w) : rd (takeC mm v w) 31 v 4 = rd mm 31 v 4 := by
  unfold takeC tk1
  rw [rd_begin _ _ _ _ _ _ _ (fun q => h q.2)]
  simp [rd_st]
theorem rd_takeW (mm : Mm) (v w : Int) : rd (takeC mm v w) 31 w 0 = 0 := by
  unfold takeC
  rw [rd_begin0]; rfl
theorem rd_lose (mm : Mm) (x v : Int) (k : Nat) (i j : Int) (h : ¬ (k = 31 ∧ i = v)) (h2 : k ≠ 32) : rd (loseC mm x v) k i j = rd mm k i j := by
  unfold loseC
  by_cases h0 : rd mm 31 v 0 = 0
  · rw [pif_t h0]
  · rw [pif_f h0, rd_begin _ _ _ _ _ _ _ h, rd_st_ne h2]
theorem rd_lose0 (mm : Mm) (x v : Int) : rd (loseC mm x v) 31 v 0 = 0 := by
  unfold loseC
  by_cases h0 : rd mm 31 v 0 = 0
  · rw [pif_t h0]; exact h0
  · rw [pif_f h0, rd_begin0]; rfl
theorem vOK_of {m m' : Mm} {v : Int} (h : vOK m v) (h31 : ∀ j, rd m' 31 v j = rd m 31 v j) (h18 : ∀ t, rd m' 18 t 3 = rd m 18 t 3) : vOK m' v := by
  unfold vOK at h ⊢
  simp only [h31, h18]
  exact h
theorem vOK_idle {m : Mm} {v : Int} (h : rd m 31 v 0 = 0) : vOK m v := ⟨fun q => by rw [h] at q; exact absurd q (by decide), fun q => absurd h q⟩
theorem IA_of {m m' : Mm} (h : IA m) (hk : ∀ (k : Nat) (i j : Int), k < 20 → rd m' k i j = rd m k i j) : IA m' := by
  unfold IA tOK aOK at h ⊢
  simp only [hk 18 _ _ (by decide), hk 19 _ _ (by decide), hk 17 _ _ (by decide), hk 5 _ _ (by decide)]
  exact h
def kp1 (mm : Mm) (x v at_ : Int) : Mm := st mm 28 x at_ (wr (rd mm 31 v 0))
def kp2 (mm : Mm) (x v at_ : Int) : Mm := st mm 28 x (at_ + 1) (wr (rd mm 31 v 1))
def kpC (mm : Mm) (x at_ j z : Int) : Mm := st mm 28 x (at_ + j) (wr z)
def kpn (mm : Mm) (x : Int) : Mm := st mm 27 x 1 (wr (rd mm 27 x 1 + 1))
noncomputable def keepC (mm : Mm) (x v s t q g u : Int) : Mm := pif (rd mm 27 x 1 < 100) (kpn (kpC (kpC (kpC (kpC (kpC (kp2 (kp1 mm x v (rd mm 27 x 1 * 7)) x v (rd mm 27 x 1 * 7)) x (rd mm 27 x 1 * 7) 2 s) x (rd mm 27 x 1 * 7) 3 t) x (rd mm 27 x 1 * 7) 4 q) x (rd mm 27 x 1 * 7) 5 (pif (wr g = 0) 0 1)) x (rd mm 27 x 1 * 7) 6 u) x) mm
set_option maxRecDepth 100000 in
set_option maxHeartbeats 400000 in
theorem M_keep (x v s9 t q9 g u : Int) (mm : Mm) (o : Int64) (c0 : 0 ≤ rd mm 27 x 1) : MetX iX2_keep [xr 27 x, xr 31 v, xi s9, xi t, xi q9, xi g, xi u] mm o (rtv (keepC mm x v s9 t q9 g u) o) := by
  refine MetX.of 0 (by decide +kernel) rfl (Nat.le_of_ble_eq_true rfl) ⟨by decide, by decide⟩ ?_
  intro p l e s m args below meth c Q V D ad A hC hN hok hF
  refine wpx hC tkX2_keep hF [92] 200 ?_
  refine ⟨fun q => ?_, fun q => ?_⟩
  rotate_left
  · rw [wr_rd, show wr 100 = 100 from rfl] at q
    exact ⟨rfl, pif_f q, rfl⟩
  rw [wr_rd, show wr 100 = 100 from rfl] at q
  refine ⟨⟨by omega, by show _ < (700 : Int); omega⟩, ⟨by omega, by show _ < (700 : Int); omega⟩, ⟨by omega, by show _ < (700 : Int); omega⟩, ⟨by omega, by show _ < (700 : Int); omega⟩, ⟨by omega, by show _ < (700 : Int); omega⟩, fun q2 => ?_, fun q2 => ?_⟩
  · refine wpx hC tkX2_keep hF [] 200 ?_
    refine ⟨⟨by omega, by show _ < (700 : Int); omega⟩, ⟨by omega, by show _ < (700 : Int); omega⟩, rfl, ?_, rfl⟩
    rw [show keepC mm x v s9 t q9 g u = _ from pif_t q, show pif (wr g = 0) (0 : Int) 1 = 0 from pif_t q2]
    rfl
  · refine wpx hC tkX2_keep hF [] 200 ?_
    refine ⟨⟨by omega, by show _ < (700 : Int); omega⟩, ⟨by omega, by show _ < (700 : Int); omega⟩, rfl, ?_, rfl⟩
    rw [show keepC mm x v s9 t q9 g u = _ from pif_t q, show pif (wr g = 0) (0 : Int) 1 = 1 from pif_f q2]
    rfl
/-- a search that keeps the best and a number of it -/
noncomputable def srch (P : Int → Int → Int → Prop) (U : Int → Int) : Nat → Int → Int → Int → Int
  | 0, _, b, _ => b
  | n + 1, a, b, u => pif (P a b u) (srch P U n (a + 1) a (U a)) (srch P U n (a + 1) b u)
theorem srch_range (P : Int → Int → Int → Prop) (U : Int → Int) : ∀ (n : Nat) (a b u : Int), srch P U n a b u = b ∨ (a ≤ srch P U n a b u ∧ srch P U n a b u < a + n)
  | 0, a, b, u => Or.inl rfl
  | n + 1, a, b, u => by
    have e : srch P U (n + 1) a b u = pif (P a b u) (srch P U n (a + 1) a (U a)) (srch P U n (a + 1) b u) := rfl
    rw [e]
    by_cases hp : P a b u
    · rw [pif_t hp]
      rcases srch_range P U n (a + 1) a (U a) with h | h <;> omega
    · rw [pif_f hp]
      rcases srch_range P U n (a + 1) b u with h | h <;> omega
def alP (mm : Mm) (x i a u : Int) : Prop := u < rd mm 19 a 9 ∧ rd mm 19 a 10 ≤ rd mm 26 x 8 ∧ rd mm 26 x 8 + rd mm 19 a 3 - 1 ≤ rd mm 19 a 11 ∧ rd mm 24 (30 + x) a = 0 ∧ ¬ obsC mm x 2 a ∧ suitC mm 19 a i (rd mm 26 x 8) (rd mm 19 a 3)
noncomputable def alB (mm : Mm) (x v i : Int) : Int := srch (fun a _ u => alP mm x i a u) (fun a => rd mm 19 a 9) (rd mm 5 0 8).toNat 0 (-1) (pif (rd mm 31 v 0 = 2) (rd mm 19 (rd mm 31 v 1) 9) 0)
noncomputable def alertC (mm : Mm) (x v i : Int) : Mm := pif (alB mm x v i = -1) mm (beginC (loseC mm x v) v 2 (alB mm x v i))
set_option maxRecDepth 100000 in
set_option maxHeartbeats 400000 in
theorem M_beginAlert (x v i : Int) (mm : Mm) (o : Int64) (hI : IA mm) (hv : vOK mm v) (w0 : 0 ≤ rd mm 26 x 8) (w1 : rd mm 26 x 8 < 720) : MetX iX4_beginAlert [xr 26 x, xr 31 v, xr 11 i] mm o (rtv (alertC mm x v i) o) := by
  refine MetX.of 0 (by decide +kernel) rfl (Nat.le_of_ble_eq_true rfl) ⟨by decide, by decide⟩ ?_
  intro p l e s m args below meth c Q V D ad A hC hN hok hF
  have hc0 := hI.2.2.2.2.2.1
  have hc1 := hI.2.2.2.2.2.2
  have fin : ∀ (b : Int), b = alB mm x v i → Wx p l e (mrm iX4_beginAlert) s m args below meth c 0 0 Q V D ad A 7 161 [(0, xr 26 x), (1, xr 31 v), (2, xr 11 i), (3, xi b)] [] mm o := by
    intro b hb
    have hbr : b = -1 ∨ (0 ≤ b ∧ b < 24) := by
      rcases srch_range (fun a _ u => alP mm x i a u) (fun a => rd mm 19 a 9) (rd mm 5 0 8).toNat 0 (-1) (pif (rd mm 31 v 0 = 2) (rd mm 19 (rd mm 31 v 1) 9) 0) with h | h
      · exact Or.inl (hb.trans h)
      · right
        rw [hb]; unfold alB; omega
    refine wpx hC tkX4_beginAlert hF [] 200 ?_
    refine ⟨fun q => ?_, fun q => ?_⟩
    · rw [show wr (-1) = -1 from rfl, wr_of (by omega) (by omega)] at q
      exact ⟨rfl, pif_t (hb.symm.trans q), rfl⟩
    · rw [show wr (-1) = -1 from rfl, wr_of (by omega) (by omega)] at q
      refine Wx.callV (x := iX4_beginAlert) (y := iX4_lose) (k := 26) (avs := [_]) (rest := []) hC hN tkX4_beginAlert rfl rfl kX4_lose rfl (M_lose _ _ _ _ hI hv) ⟨rfl, rfl⟩ rfl (Nat.le_of_ble_eq_true rfl) (by exact nol rfl) ?_
      rintro r mm' o' ⟨rfl, rfl, rfl⟩
      refine wpx hC tkX4_beginAlert hF [] 200 ?_
      refine Wx.callV (x := iX4_beginAlert) (y := iX9_begin) (k := 31) (avs := [_, _]) (rest := []) hC hN tkX4_beginAlert rfl rfl kX9_begin rfl (M_vbegin _ _ _ _ _) ⟨rfl, rfl⟩ rfl (Nat.le_of_ble_eq_true rfl) (by exact nol rfl) ?_
      rintro r mm' o' ⟨rfl, rfl, rfl⟩
      refine wpx hC tkX4_beginAlert hF [] 200 ?_
      refine ⟨rfl, ?_, rfl⟩
      rw [show alertC mm x v i = _ from pif_f (fun h => q (hb.trans h)), hb]
  have loop : ∀ (k : Nat) (a b u : Int), 0 ≤ a → a + k = rd mm 5 0 8 → -2147483648 ≤ u → u < 2147483648 → srch (fun a _ u => alP mm x i a u) (fun a => rd mm 19 a 9) k a b u = alB mm x v i → ∀ L, L = [(0, xr 26 x), (1, xr 31 v), (2, xr 11 i), (3, xi b), (4, xi u), (5, xi a)] → Wx p l e (mrm iX4_beginAlert) s m args below meth c 0 0 Q V D ad A 7 34 L [] mm o := by
    intro k
    induction k with
    | zero =>
      intro a b u a0 ha u0 u1 he L hL
      subst hL
      refine wpx hC tkX4_beginAlert hF [161] 200 ?_
      refine ⟨fun q => ?_, fun q => ?_⟩
      · exact Wx.pick [0, 1, 2, 3] rfl (fin b he)
      · rw [wr_rd, wr_of (by omega) (by omega)] at q; omega
    | succ k ih =>
      intro a b u a0 ha u0 u1 he L hL
      subst hL
      have haO := hI.2.1 a a0 (by omega)
      have skip : ¬ alP mm x i a u → Wx p l e (mrm iX4_beginAlert) s m args below meth c 0 0 Q V D ad A 7 155 [(0, xr 26 x), (1, xr 31 v), (2, xr 11 i), (3, xi b), (4, xi u), (5, xi a)] [] mm o := by
        intro hn
        refine wpx hC tkX4_beginAlert hF [34] 200 ?_
        exact ih (a + 1) b u (by omega) (by omega) u0 u1 (by rw [← he]; exact (pif_f hn).symm) _ rfl
      refine wpx hC tkX4_beginAlert hF [155, 34] 200 ?_
      refine ⟨fun q => ?_, fun q => ⟨⟨a0, by show _ < (10 : Int); omega⟩, ?_⟩⟩
      · rw [wr_rd, wr_of (by omega) (by omega)] at q; omega
      refine ⟨fun q2 => ?_, fun q2 => ?_⟩
      · rw [wr_rd, wr_of (by omega) (by omega)] at q2
        exact Wx.pick [0, 1, 2, 3, 4, 5] rfl (skip (fun h => by have := h.1; omega))
      rw [wr_rd, wr_of (by omega) (by omega)] at q2
      refine ⟨fun q3 => ?_, fun q3 => ?_⟩
      · rw [wr_rd, wr_rd] at q3
        exact Wx.pick [0, 1, 2, 3, 4, 5] rfl (skip (fun h => by have := h.2.1; omega))
      rw [wr_rd, wr_rd] at q3
      have hl := haO.2.1
      refine ⟨fun q4 => ?_, fun q4 => ?_⟩
      · rw [wr_rd, wr_of (by omega) (by omega)] at q4
        exact Wx.pick [0, 1, 2, 3, 4, 5] rfl (skip (fun h => by have := h.2.2.1; omega))
      rw [wr_rd, wr_of (by omega) (by omega)] at q4
      refine ⟨⟨a0, by show _ < (10 : Int); omega⟩, fun q5 => ?_, fun q5 => ?_⟩
      · rw [wr_rd] at q5
        exact Wx.pick [0, 1, 2, 3, 4, 5] rfl (skip (fun h => q5 h.2.2.2.1))
      rw [wr_rd] at q5
      refine Wx.callV (x := iX4_beginAlert) (y := iX4_isObserved) (k := 26) (avs := [_, _]) (rest := []) hC hN tkX4_beginAlert rfl rfl kX4_isObserved rfl (M_isObserved _ _ _ _ _ rfl (wr_of (by omega) (by omega))) ⟨rfl, rfl⟩ rfl (Nat.le_of_ble_eq_true rfl) (by exact nol rfl) ?_
      rintro r mm' o' ⟨rfl, rfl, rfl⟩
      refine wpx hC tkX4_beginAlert hF [155, 34] 200 ?_
      refine ⟨fun q6 => ?_, fun q6 => ?_⟩
      · rw [wr_bz] at q6
        exact Wx.pick [0, 1, 2, 3, 4, 5] rfl (skip (fun h => q6 (bz_f h.2.2.2.2.1)))
      rw [wr_bz] at q6
      refine Wx.callV (x := iX4_beginAlert) (y := iX5_suits) (k := 5) (avs := [_, _, _, _]) (rest := []) hC hN tkX4_beginAlert rfl rfl kX5_suits rfl (M_suits 19 _ _ _ _ _ _ (by decide) w0 w1 (by omega) (by omega) haO.2.2.1 haO.2.2.2) ⟨rfl, rfl⟩ rfl (Nat.le_of_ble_eq_true rfl) (by exact nol rfl) ?_
      rintro r mm' o' ⟨rfl, rfl, rfl⟩
      refine wpx hC tkX4_beginAlert hF [155, 34] 200 ?_
      refine ⟨fun q7 => ?_, fun q7 => ?_⟩
      · rw [wr_bz] at q7
        exact Wx.pick [0, 1, 2, 3, 4, 5] rfl (skip (fun h => bz_0.mp q7 h.2.2.2.2.2))
      rw [wr_bz] at q7
      have hP : alP mm x i a u := ⟨by omega, by omega, by omega, q5, bz_0.mp q6, Classical.not_not.mp (fun z => q7 (bz_0.mpr z))⟩
      refine Wx.pick [0, 1, 2, 3, 4, 5] rfl ?_
      refine wpx hC tkX4_beginAlert hF [34] 200 ?_
      exact ih (a + 1) a (rd mm 19 a 9) (by omega) (by omega) (rd_lo _ _ _ _) (rd_hi _ _ _ _) (by rw [← he]; exact (pif_t hP).symm) _ rfl
  refine wpx hC tkX4_beginAlert hF [34] 200 ?_
  refine ⟨fun q => ?_, fun q => ?_⟩
  · rw [wr_rd, show wr 2 = 2 from rfl] at q
    refine loop (rd mm 5 0 8).toNat 0 (-1) 0 (by omega) (by omega) (by omega) (by omega) ?_ _ rfl
    unfold alB
    rw [pif_f q]
  · rw [wr_rd, show wr 2 = 2 from rfl] at q
    obtain ⟨-, n0, n1⟩ := hv.2 (by omega) (by omega)
    refine ⟨⟨n0, n1⟩, ?_⟩
    refine loop (rd mm 5 0 8).toNat 0 (-1) (rd mm 19 (rd mm 31 v 1) 9) (by omega) (by omega) (rd_lo _ _ _ _) (rd_hi _ _ _ _) ?_ _ rfl
    unfold alB
    rw [pif_t q]
