/-! ===== resume, beginTarget ===== -/
def IV (mm : Mm) (x : Int) : Prop := ∀ v, 27 * x ≤ v → v < 27 * x + 27 → vOK mm v
def reP (mm : Mm) (x i t b : Int) : Prop := ¬ rd mm 31 (27 * x + 3 + t) 0 = 0 ∧ (b = -1 ∨ rd mm 31 (27 * x + 3 + t) 4 < rd mm 31 (27 * x + 3 + b) 4) ∧ suitC mm 18 t i (rd mm 26 x 8) (rd mm 18 t 3 - rd mm 31 (27 * x + 3 + t) 2)
noncomputable def reB (mm : Mm) (x i : Int) : Int := srch (fun t b _ => reP mm x i t b) (fun _ => 0) (rd mm 5 0 7).toNat 0 (-1) 0
noncomputable def resumeC (mm : Mm) (x v i : Int) : Mm := pif (reB mm x i = -1) mm (takeC mm v (27 * x + 3 + reB mm x i))
/-- waiting visits are of the target of their number -/
def IW (mm : Mm) (x : Int) : Prop := ∀ t, 0 ≤ t → t < 24 → ¬ rd mm 31 (27 * x + 3 + t) 0 = 0 → 0 ≤ rd mm 31 (27 * x + 3 + t) 2 ∧ rd mm 31 (27 * x + 3 + t) 2 ≤ rd mm 18 t 3
set_option maxRecDepth 100000 in
set_option maxHeartbeats 400000 in
theorem M_resume (x v i : Int) (mm : Mm) (o : Int64) (hI : IA mm) (hW9 : IW mm x) (w0 : 0 ≤ rd mm 26 x 8) (w1 : rd mm 26 x 8 < 720) : MetX iX4_resume [xr 26 x, xr 31 v, xr 11 i] mm o (rtv (resumeC mm x v i) o) := by
  refine MetX.of 0 (by decide +kernel) rfl (Nat.le_of_ble_eq_true rfl) ⟨by decide, by decide⟩ ?_
  intro p l e s m args below meth c Q V D ad A hC hN hok hF
  have hc0 := hI.2.2.2.2.1.1
  have hc1 := hI.2.2.2.2.1.2
  have fin : ∀ (b : Int), b = reB mm x i → Wx p l e (mrm iX4_resume) s m args below meth c 0 0 Q V D ad A 7 105 [(0, xr 26 x), (1, xr 31 v), (2, xr 11 i), (3, xi b)] [] mm o := by
    intro b hb
    have hbr : b = -1 ∨ (0 ≤ b ∧ b < 24) := by
      rcases srch_range (fun t b _ => reP mm x i t b) (fun _ => 0) (rd mm 5 0 7).toNat 0 (-1) 0 with h | h
      · exact Or.inl (hb.trans h)
      · right
        rw [hb]; unfold reB; omega
    refine wpx hC tkX4_resume hF [] 200 ?_
    refine ⟨fun q => ?_, fun q => ?_⟩
    · rw [show wr (-1) = -1 from rfl, wr_of (by omega) (by omega)] at q
      exact ⟨rfl, pif_t (hb.symm.trans q), rfl⟩
    · rw [show wr (-1) = -1 from rfl, wr_of (by omega) (by omega)] at q
      refine ⟨⟨by omega, by show _ < (24 : Int); omega⟩, ?_⟩
      refine Wx.callV (x := iX4_resume) (y := iX9_takeOver) (k := 31) (avs := [_]) (rest := []) hC hN tkX4_resume rfl rfl kX9_takeOver rfl (M_takeOver _ _ _ _) ⟨rfl, rfl⟩ rfl (Nat.le_of_ble_eq_true rfl) (by exact nol rfl) ?_
      rintro r mm' o' ⟨rfl, rfl, rfl⟩
      refine wpx hC tkX4_resume hF [] 200 ?_
      refine ⟨rfl, ?_, rfl⟩
      rw [show resumeC mm x v i = _ from pif_f (fun h => q (hb.trans h)), hb]
  have loop : ∀ (k : Nat) (t b : Int), 0 ≤ t → t + k = rd mm 5 0 7 → (b = -1 ∨ (0 ≤ b ∧ b < 24)) → srch (fun t b _ => reP mm x i t b) (fun _ => 0) k t b 0 = reB mm x i → ∀ L, L = [(0, xr 26 x), (1, xr 31 v), (2, xr 11 i), (3, xi b), (4, xi t)] → Wx p l e (mrm iX4_resume) s m args below meth c 0 0 Q V D ad A 7 5 L [] mm o := by
    intro k
    induction k with
    | zero =>
      intro t b t0 ht hb he L hL
      subst hL
      refine wpx hC tkX4_resume hF [105] 200 ?_
      refine ⟨fun q => ?_, fun q => ?_⟩
      · exact Wx.pick [0, 1, 2, 3] rfl (fin b he)
      · rw [wr_rd, wr_of (by omega) (by omega)] at q; omega
    | succ k ih =>
      intro t b t0 ht hb he L hL
      subst hL
      have htO := hI.1 t t0 (by omega)
      have skip : ¬ reP mm x i t b → Wx p l e (mrm iX4_resume) s m args below meth c 0 0 Q V D ad A 7 99 [(0, xr 26 x), (1, xr 31 v), (2, xr 11 i), (3, xi b), (4, xi t)] [] mm o := by
        intro hn
        refine wpx hC tkX4_resume hF [5] 200 ?_
        exact ih (t + 1) b (by omega) (by omega) hb (by rw [← he]; exact (pif_f hn).symm) _ rfl
      have go : ¬ rd mm 31 (27 * x + 3 + t) 0 = 0 → (b = -1 ∨ rd mm 31 (27 * x + 3 + t) 4 < rd mm 31 (27 * x + 3 + b) 4) → Wx p l e (mrm iX4_resume) s m args below meth c 0 0 Q V D ad A 7 68 [(0, xr 26 x), (1, xr 31 v), (2, xr 11 i), (3, xi b), (4, xi t), (5, xr 31 (27 * x + 3 + t)), (6, xr 18 t)] [] mm o := by
        intro q2 q3
        obtain ⟨h0, h1⟩ := hW9 t t0 (by omega) q2
        have hl := htO.2.1
        refine wpx hC tkX4_resume hF [99, 5] 200 ?_
        refine Wx.callV (x := iX4_resume) (y := iX5_suits) (k := 5) (avs := [_, _, _, _]) (rest := []) hC hN tkX4_resume rfl rfl kX5_suits rfl (M_suits 18 _ _ _ _ _ _ (by decide) w0 w1 (by omega) (by omega) htO.2.2.1.1 htO.2.2.1.2) ⟨rfl, rfl⟩ rfl (Nat.le_of_ble_eq_true rfl) (by exact nol rfl) ?_
        rintro r mm' o' ⟨rfl, rfl, rfl⟩
        refine wpx hC tkX4_resume hF [99, 5] 200 ?_
        refine ⟨fun q7 => ?_, fun q7 => ?_⟩
        · rw [wr_bz] at q7
          exact Wx.pick [0, 1, 2, 3, 4] rfl (skip (fun h => bz_0.mp q7 h.2.2))
        · rw [wr_bz] at q7
          have hP : reP mm x i t b := ⟨q2, q3, Classical.not_not.mp (fun z => q7 (bz_0.mpr z))⟩
          refine Wx.pick [0, 1, 2, 3, 4] rfl ?_
          refine wpx hC tkX4_resume hF [5] 200 ?_
          exact ih (t + 1) t (by omega) (by omega) (Or.inr ⟨by omega, by omega⟩) (by rw [← he]; exact (pif_t hP).symm) _ rfl
      refine wpx hC tkX4_resume hF [99, 68, 5] 200 ?_
      refine ⟨fun q => ?_, fun q => ⟨⟨t0, by show _ < (24 : Int); omega⟩, ⟨t0, by show _ < (24 : Int); omega⟩, fun q2 => ?_, fun q2 => ?_⟩⟩
      · rw [wr_rd, wr_of (by omega) (by omega)] at q; omega
      · rw [wr_rd] at q2
        exact Wx.pick [0, 1, 2, 3, 4] rfl (skip (fun h => h.1 q2))
      rw [wr_rd] at q2
      refine ⟨fun q3 => ?_, fun q3 => ?_⟩
      · rw [show wr (-1) = -1 from rfl, wr_of (by omega) (by omega)] at q3
        exact go q2 (Or.inl q3)
      rw [show wr (-1) = -1 from rfl, wr_of (by omega) (by omega)] at q3
      refine ⟨⟨by omega, by show _ < (24 : Int); omega⟩, fun q4 => ?_, fun q4 => ?_⟩
      · rw [wr_rd, wr_rd] at q4
        exact Wx.pick [0, 1, 2, 3, 4] rfl (skip (fun h => by rcases h.2.1 with z | z; exact q3 z; omega))
      · rw [wr_rd, wr_rd] at q4
        exact go q2 (Or.inr (by omega))
  refine wpx hC tkX4_resume hF [5] 200 ?_
  exact loop (rd mm 5 0 7).toNat 0 (-1) (by omega) (by omega) (Or.inl rfl) rfl _ rfl
def canC (mm : Mm) (x i t : Int) : Prop := wantC mm (30 + x) t (rd mm 26 x 8 / 24) ∧ rd mm 31 (27 * x + 3 + t) 0 = 0 ∧ ¬ obsC mm x 1 t ∧ suitC mm 18 t i (rd mm 26 x 8) (rd mm 18 t 3)
noncomputable def ordC (mm : Mm) (x t b : Int) : Int := pif (b = -1) 1 (cmpC mm x (rd mm 18 t 10) (rd mm 18 b 10))
noncomputable def begsC (mm : Mm) (x i t : Int) : Int := highC mm 18 t i (rd mm 26 x 8) 24 - rd mm 18 t 3 + 1
def btP (mm : Mm) (x i t b f : Int) : Prop := canC mm x i t ∧ 0 ≤ wr (ordC mm x t b) ∧ (0 < wr (ordC mm x t b) ∨ begsC mm x i t < f)
noncomputable def btB (mm : Mm) (x i : Int) : Int := srch (btP mm x i) (begsC mm x i) (rd mm 5 0 7).toNat 0 (-1) 0
noncomputable def targetC (mm : Mm) (x v i : Int) : Mm := pif (btB mm x i = -1) mm (beginC mm v 1 (btB mm x i))
set_option maxRecDepth 100000 in
set_option maxHeartbeats 400000 in
theorem M_beginTarget (x v i : Int) (mm : Mm) (o : Int64) (hI : IA mm) (w0 : 0 ≤ rd mm 26 x 8) (w1 : rd mm 26 x 8 < 720) : MetX iX4_beginTarget [xr 26 x, xr 31 v, xr 11 i] mm o (rtv (targetC mm x v i) o) := by
  refine MetX.of 0 (by decide +kernel) rfl (Nat.le_of_ble_eq_true rfl) ⟨by decide, by decide⟩ ?_
  intro p l e s m args below meth c Q V D ad A hC hN hok hF
  have hc0 := hI.2.2.2.2.1.1
  have hc1 := hI.2.2.2.2.1.2
  have fin : ∀ (b : Int), b = btB mm x i → Wx p l e (mrm iX4_beginTarget) s m args below meth c 0 0 Q V D ad A 9 186 [(0, xr 26 x), (1, xr 31 v), (2, xr 11 i), (3, xi b)] [] mm o := by
    intro b hb
    have hbr : b = -1 ∨ (0 ≤ b ∧ b < 24) := by
      rcases srch_range (btP mm x i) (begsC mm x i) (rd mm 5 0 7).toNat 0 (-1) 0 with h | h
      · exact Or.inl (hb.trans h)
      · right
        rw [hb]; unfold btB; omega
    refine wpx hC tkX4_beginTarget hF [] 200 ?_
    refine ⟨fun q => ?_, fun q => ?_⟩
    · rw [show wr (-1) = -1 from rfl, wr_of (by omega) (by omega)] at q
      exact ⟨rfl, pif_t (hb.symm.trans q), rfl⟩
    · rw [show wr (-1) = -1 from rfl, wr_of (by omega) (by omega)] at q
      refine Wx.callV (x := iX4_beginTarget) (y := iX9_begin) (k := 31) (avs := [_, _]) (rest := []) hC hN tkX4_beginTarget rfl rfl kX9_begin rfl (M_vbegin _ _ _ _ _) ⟨rfl, rfl⟩ rfl (Nat.le_of_ble_eq_true rfl) (by exact nol rfl) ?_
      rintro r mm' o' ⟨rfl, rfl, rfl⟩
      refine wpx hC tkX4_beginTarget hF [] 200 ?_
      refine ⟨rfl, ?_, rfl⟩
      rw [show targetC mm x v i = _ from pif_f (fun h => q (hb.trans h)), hb]
  have hn24 : jdiv (rd mm 26 x 8) 24 = rd mm 26 x 8 / 24 := jdiv24 w0 (by omega)
  have loop : ∀ (k : Nat) (t b f : Int), 0 ≤ t → t + k = rd mm 5 0 7 → (b = -1 ∨ (0 ≤ b ∧ b < 24)) → -100 ≤ f → f ≤ 100 → srch (btP mm x i) (begsC mm x i) k t b f = btB mm x i → ∀ L, L = [(0, xr 26 x), (1, xr 31 v), (2, xr 11 i), (3, xi b), (4, xi f), (5, xi t)] → Wx p l e (mrm iX4_beginTarget) s m args below meth c 0 0 Q V D ad A 9 8 L [] mm o := by
    intro k
    induction k with
    | zero =>
      intro t b f t0 ht hb f0 f1 he L hL
      subst hL
      refine wpx hC tkX4_beginTarget hF [186] 200 ?_
      refine ⟨fun q => ?_, fun q => ?_⟩
      · exact Wx.pick [0, 1, 2, 3] rfl (fin b he)
      · rw [wr_rd, wr_of (by omega) (by omega)] at q; omega
    | succ k ih =>
      intro t b f t0 ht hb f0 f1 he L hL
      subst hL
      have htO := hI.1 t t0 (by omega)
      have hl := htO.2.1
      have hhr := highC_range mm 18 t i (rd mm 26 x 8) 24 w0 (by decide)
      have hbg : begsC mm x i t = highC mm 18 t i (rd mm 26 x 8) 24 - rd mm 18 t 3 + 1 := rfl
      have skip : ¬ btP mm x i t b f → Wx p l e (mrm iX4_beginTarget) s m args below meth c 0 0 Q V D ad A 9 180 [(0, xr 26 x), (1, xr 31 v), (2, xr 11 i), (3, xi b), (4, xi f), (5, xi t)] [] mm o := by
        intro hn
        refine wpx hC tkX4_beginTarget hF [8] 200 ?_
        exact ih (t + 1) b f (by omega) (by omega) hb f0 f1 (by rw [← he]; exact (pif_f hn).symm) _ rfl
      have take : btP mm x i t b f → Wx p l e (mrm iX4_beginTarget) s m args below meth c 0 0 Q V D ad A 9 173 [(0, xr 26 x), (1, xr 31 v), (2, xr 11 i), (3, xi b), (4, xi f), (5, xi t), (8, xi (begsC mm x i t))] [] mm o := by
        intro hP
        refine wpx hC tkX4_beginTarget hF [8] 200 ?_
        refine Wx.pick [0, 1, 2, 3, 4, 5] rfl ?_
        exact ih (t + 1) t (begsC mm x i t) (by omega) (by omega) (Or.inr ⟨by omega, by omega⟩) (by omega) (by omega) (by rw [← he]; exact (pif_t hP).symm) _ rfl
      have go : canC mm x i t → Wx p l e (mrm iX4_beginTarget) s m args below meth c 0 0 Q V D ad A 9 129 [(0, xr 26 x), (1, xr 31 v), (2, xr 11 i), (3, xi b), (4, xi f), (5, xi t), (6, xr 18 t)] [xi (ordC mm x t b)] mm o := by
        intro hcan
        refine wpx hC tkX4_beginTarget hF [180, 173, 8] 200 ?_
        refine ⟨fun q7 => ?_, fun q7 => ?_⟩
        rotate_left
        · exact Wx.pick [0, 1, 2, 3, 4, 5] rfl (skip (fun h => q7 h.2.1))
        refine Wx.callV (x := iX4_beginTarget) (y := iX7_highSlots) (k := 11) (avs := [_, _, _]) (rest := []) hC hN tkX4_beginTarget rfl rfl kX7_highSlots rfl (M_highSlots 18 _ _ _ _ _ _ (by decide) w0 w1 (by decide) (by decide)) ⟨rfl, rfl⟩ rfl (Nat.le_of_ble_eq_true rfl) (by exact nol rfl) ?_
        rintro r mm' o' ⟨rfl, rfl, rfl⟩
        refine wpx hC tkX4_beginTarget hF [180, 173, 8] 200 ?_
        refine ⟨fun q8 => ?_, fun q8 => ⟨fun q9 => ?_, fun q9 => ?_⟩⟩
        · exact Wx.pick [0, 1, 2, 3, 4, 5, 8] rfl (take ⟨hcan, q7, Or.inl q8⟩)
        · rw [wr_of (by omega) (by omega), wr_of (z := highC mm 18 t i (rd mm 26 x 8) 24 - rd mm 18 t 3 + 1) (by omega) (by omega)] at q9
          exact Wx.pick [0, 1, 2, 3, 4, 5] rfl (skip (fun h => by rcases h.2.2 with z | z; exact q8 z; omega))
        · rw [wr_of (by omega) (by omega), wr_of (z := highC mm 18 t i (rd mm 26 x 8) 24 - rd mm 18 t 3 + 1) (by omega) (by omega)] at q9
          exact Wx.pick [0, 1, 2, 3, 4, 5, 8] rfl (take ⟨hcan, q7, Or.inr (by omega)⟩)
      refine wpx hC tkX4_beginTarget hF [180, 129, 8] 200 ?_
      refine ⟨fun q => ?_, fun q => ⟨⟨t0, by show _ < (24 : Int); omega⟩, by decide, ?_⟩⟩
      · rw [wr_rd, wr_of (by omega) (by omega)] at q; omega
      rw [hn24]
      refine Wx.callV (x := iX4_beginTarget) (y := iX3_isWanted) (k := 20) (avs := [_, _]) (rest := []) hC hN tkX4_beginTarget rfl rfl kX3_isWanted rfl (M_isWanted _ _ _ _ _ htO.2.2.2.1.1 htO.2.2.2.1.2) ⟨rfl, rfl⟩ rfl (Nat.le_of_ble_eq_true rfl) (by exact nol rfl) ?_
      rintro r mm' o' ⟨rfl, rfl, rfl⟩
      refine wpx hC tkX4_beginTarget hF [180, 129, 8] 200 ?_
      refine ⟨fun q2 => ?_, fun q2 => ?_⟩
      · rw [wr_bz] at q2
        exact Wx.pick [0, 1, 2, 3, 4, 5] rfl (skip (fun h => bz_0.mp q2 h.1.1))
      rw [wr_bz] at q2
      refine ⟨⟨t0, by show _ < (24 : Int); omega⟩, fun q3 => ?_, fun q3 => ?_⟩
      · rw [wr_rd] at q3
        exact Wx.pick [0, 1, 2, 3, 4, 5] rfl (skip (fun h => q3 h.1.2.1))
      rw [wr_rd] at q3
      refine Wx.callV (x := iX4_beginTarget) (y := iX4_isObserved) (k := 26) (avs := [_, _]) (rest := []) hC hN tkX4_beginTarget rfl rfl kX4_isObserved rfl (M_isObserved _ _ _ _ _ rfl (wr_of (by omega) (by omega))) ⟨rfl, rfl⟩ rfl (Nat.le_of_ble_eq_true rfl) (by exact nol rfl) ?_
      rintro r mm' o' ⟨rfl, rfl, rfl⟩
      refine wpx hC tkX4_beginTarget hF [180, 129, 8] 200 ?_
      refine ⟨fun q4 => ?_, fun q4 => ?_⟩
      · rw [wr_bz] at q4
        exact Wx.pick [0, 1, 2, 3, 4, 5] rfl (skip (fun h => q4 (bz_f h.1.2.2.1)))
      rw [wr_bz] at q4
      refine Wx.callV (x := iX4_beginTarget) (y := iX5_suits) (k := 5) (avs := [_, _, _, _]) (rest := []) hC hN tkX4_beginTarget rfl rfl kX5_suits rfl (M_suits 18 _ _ _ _ _ _ (by decide) w0 w1 (by omega) (by omega) htO.2.2.1.1 htO.2.2.1.2) ⟨rfl, rfl⟩ rfl (Nat.le_of_ble_eq_true rfl) (by exact nol rfl) ?_
      rintro r mm' o' ⟨rfl, rfl, rfl⟩
      refine wpx hC tkX4_beginTarget hF [180, 129, 8] 200 ?_
      refine ⟨fun q5 => ?_, fun q5 => ?_⟩
      rotate_left
      · rw [wr_bz] at q5
        exact Wx.pick [0, 1, 2, 3, 4, 5] rfl (skip (fun h => bz_0.mp q5 h.1.2.2.2))
      rw [wr_bz] at q5
      have hcan : canC mm x i t := ⟨Classical.not_not.mp (fun z => q2 (bz_0.mpr z)), q3, bz_0.mp q4, Classical.not_not.mp (fun z => q5 (bz_0.mpr z))⟩
      refine ⟨fun q6 => ?_, fun q6 => ?_⟩
      rotate_left
      · rw [show wr (-1) = -1 from rfl, wr_of (by omega) (by omega)] at q6
        have h9 := go hcan
        rw [show ordC mm x t b = 1 from pif_t q6] at h9
        exact h9
      rw [show wr (-1) = -1 from rfl, wr_of (by omega) (by omega)] at q6
      have hbO := hI.1 b (by omega) (by omega)
      refine ⟨⟨by omega, by show _ < (24 : Int); omega⟩, ?_⟩
      refine Wx.callV (x := iX4_beginTarget) (y := iX4_compare) (k := 26) (avs := [_, _]) (rest := []) hC hN tkX4_beginTarget rfl rfl kX4_compare rfl (M_compare _ _ _ _ _ hI htO.2.2.2.2.1 htO.2.2.2.2.2 hbO.2.2.2.2.1 hbO.2.2.2.2.2) ⟨rfl, rfl⟩ rfl (Nat.le_of_ble_eq_true rfl) (by exact nol rfl) ?_
      rintro r mm' o' ⟨rfl, rfl, rfl⟩
      have h9 := go hcan
      rw [show ordC mm x t b = cmpC mm x (rd mm 18 t 10) (rd mm 18 b 10) from pif_f q6] at h9
      exact h9
  refine wpx hC tkX4_beginTarget hF [8] 200 ?_
  exact loop (rd mm 5 0 7).toNat 0 (-1) 0 (by omega) (by omega) (Or.inl rfl) (by decide) (by decide) rfl _ rfl
