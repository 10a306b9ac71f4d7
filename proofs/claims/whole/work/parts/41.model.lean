/-! ===== the model, XII: choices ===== -/
def totM (mm : Mm) : Int := rd mm 76 0 0 + rd mm 76 0 1 + rd mm 76 0 2 + rd mm 76 0 3
noncomputable def arrM (mm : Mm) (g : Int) : Int := rd mm 48 0 g * totM mm - 100 * rd mm 76 0 g
noncomputable def btrP (mm : Mm) (t v s n u : Int) : Prop :=
  (¬ grpM mm t = grpM mm v ∧ (wr (arrM mm (grpM mm v)) < wr (arrM mm (grpM mm t)) ∨ (wr (arrM mm (grpM mm t)) = wr (arrM mm (grpM mm v)) ∧ grpM mm t < grpM mm v))) ∨
  (grpM mm t = grpM mm v ∧ ¬ rd mm 54 0 t = rd mm 54 0 v ∧ (rd mm 50 0 (rd mm 54 0 v) < rd mm 50 0 (rd mm 54 0 t) ∨ (rd mm 50 0 (rd mm 54 0 t) = rd mm 50 0 (rd mm 54 0 v) ∧ rd mm 54 0 t < rd mm 54 0 v))) ∨
  (grpM mm t = grpM mm v ∧ rd mm 54 0 t = rd mm 54 0 v ∧ (rowC mm t s n u < rowC mm v s n u ∨ (rowC mm t s n u = rowC mm v s n u ∧ t < v)))
theorem row_r (mm : Mm) (t s n u : Int) (u0 : 0 ≤ u) (u1 : u < 24) : 0 ≤ rowC mm t s n u ∧ rowC mm t s n u ≤ 24 := by
  have h := runT_range (fun c => rowP mm t s n (u + c)) (24 - u).toNat 0
  change 0 ≤ rowC mm t s n u ∧ rowC mm t s n u ≤ _ at h
  omega
set_option maxRecDepth 100000 in
set_option maxHeartbeats 400000 in
theorem M_better (t v s9 n u : Int) (mm : Mm) (o : Int64) (hI : IM mm) (t0 : 0 ≤ t) (t1 : t < 24) (v0 : 0 ≤ v) (v1 : v < 24) (s0 : 0 ≤ s9) (s1 : s9 < 3) (u0 : 0 ≤ u) (u1 : u < 24) : MetX iX11_better [xr 40 0, xi t, xi v, xi s9, xi n, xi u] mm o (rto (xi (bz (btrP mm t v s9 n u))) mm o) := by
  refine MetX.of 2 (by decide +kernel) rfl (Nat.le_of_ble_eq_true rfl) ⟨by decide, by decide⟩ ?_
  intro p l e s m args below meth c Q V D ad A hC hN hok hF
  have g1 := grp_r hI t0 (show t < 34 by omega)
  have g2 := grp_r hI v0 (show v < 34 by omega)
  obtain ⟨o1, -⟩ := hI.2.2.2.1 t t0 (by omega)
  obtain ⟨o2, -⟩ := hI.2.2.2.1 v v0 (by omega)
  have t2 : 0 ≤ t ∧ t < 34 := by omega
  have v2 : 0 ≤ v ∧ v < 34 := by omega
  have r1 := row_r mm t s9 n u u0 u1
  have r2 := row_r mm v s9 n u u0 u1
  have no : ¬ btrP mm t v s9 n u → some (xi 0) = some (xi (bz (btrP mm t v s9 n u))) := fun h => congrArg (fun z => some (xi z)) (bz_f h).symm
  have yes : btrP mm t v s9 n u → some (xi 1) = some (xi (bz (btrP mm t v s9 n u))) := fun h => congrArg (fun z => some (xi z)) (bz_t h).symm
  refine wpx hC tkX11_better hF [] 200 ?_
  refine ⟨by decide, by decide, by decide, by decide, ?_⟩
  refine Wx.callV (x := iX11_better) (y := iX11_groupOf) (k := 40) (avs := [_]) (rest := []) hC hN tkX11_better rfl rfl kX11_groupOf rfl (M_groupOf _ _ _ hI t0 t2.2) ⟨rfl, rfl⟩ rfl (Nat.le_of_ble_eq_true rfl) (by exact nol rfl) ?_
  rintro r mm' o' ⟨rfl, rfl, rfl⟩
  refine wpx hC tkX11_better hF [] 200 ?_
  refine Wx.callV (x := iX11_better) (y := iX11_groupOf) (k := 40) (avs := [_]) (rest := []) hC hN tkX11_better rfl rfl kX11_groupOf rfl (M_groupOf _ _ _ hI v0 v2.2) ⟨rfl, rfl⟩ rfl (Nat.le_of_ble_eq_true rfl) (by exact nol rfl) ?_
  rintro r mm' o' ⟨rfl, rfl, rfl⟩
  refine wpx hC tkX11_better hF [] 200 ?_
  refine ⟨g1, g1, g2, g2, fun q => ⟨t2, v2, fun q2 => ?_, fun q2 => ?_⟩, fun q => ?_⟩
  · rw [wr_of (by omega) (by omega), wr_of (by omega) (by omega)] at q
    rw [wr_rd, wr_rd] at q2
    refine Wx.callV (x := iX11_better) (y := iX11_row) (k := 40) (avs := [_, _, _, _]) (rest := []) hC hN tkX11_better rfl rfl kX11_row rfl (M_row _ _ _ _ _ _ hI t0 t2.2 s0 s1 u0 u1) ⟨rfl, rfl⟩ rfl (Nat.le_of_ble_eq_true rfl) (by exact nol rfl) ?_
    rintro r mm' o' ⟨rfl, rfl, rfl⟩
    refine wpx hC tkX11_better hF [] 200 ?_
    refine Wx.callV (x := iX11_better) (y := iX11_row) (k := 40) (avs := [_, _, _, _]) (rest := []) hC hN tkX11_better rfl rfl kX11_row rfl (M_row _ _ _ _ _ _ hI v0 v2.2 s0 s1 u0 u1) ⟨rfl, rfl⟩ rfl (Nat.le_of_ble_eq_true rfl) (by exact nol rfl) ?_
    rintro r mm' o' ⟨rfl, rfl, rfl⟩
    refine wpx hC tkX11_better hF [] 200 ?_
    refine ⟨fun q3 => ⟨Or.inr rfl, yes (Or.inr (Or.inr ⟨q, q2, Or.inl ?_⟩)), rfl, rfl⟩, fun q3 => ⟨fun q4 => ⟨Or.inl rfl, no ?_, rfl, rfl⟩, fun q4 => ⟨fun q5 => ⟨Or.inl rfl, no ?_, rfl, rfl⟩, fun q5 => ⟨Or.inr rfl, yes (Or.inr (Or.inr ⟨q, q2, Or.inr ?_⟩)), rfl, rfl⟩⟩⟩⟩
    · rw [wr_of (by omega) (by omega), wr_of (by omega) (by omega)] at q3; exact q3
    · rw [wr_of (by omega) (by omega), wr_of (by omega) (by omega)] at q3 q4
      unfold btrP; omega
    · rw [wr_of (by omega) (by omega), wr_of (by omega) (by omega)] at q3 q4
      rw [wr_of (by omega) (by omega), wr_of (by omega) (by omega)] at q5
      unfold btrP; omega
    · rw [wr_of (by omega) (by omega), wr_of (by omega) (by omega)] at q3 q4
      rw [wr_of (by omega) (by omega), wr_of (by omega) (by omega)] at q5
      omega
  · rw [wr_of (by omega) (by omega), wr_of (by omega) (by omega)] at q
    rw [wr_rd, wr_rd] at q2
    refine ⟨t2, o1, v2, o2, fun q3 => ⟨Or.inr rfl, yes (Or.inr (Or.inl ⟨q, q2, Or.inl ?_⟩)), rfl, rfl⟩, fun q3 => ⟨t2, o1, v2, o2, fun q4 => ⟨Or.inl rfl, no ?_, rfl, rfl⟩, fun q4 => ⟨t2, v2, fun q5 => ⟨Or.inl rfl, no ?_, rfl, rfl⟩, fun q5 => ⟨Or.inr rfl, yes (Or.inr (Or.inl ⟨q, q2, Or.inr ?_⟩)), rfl, rfl⟩⟩⟩⟩
    · rw [wr_rd, wr_rd] at q3; exact q3
    · rw [wr_rd, wr_rd] at q3 q4
      unfold btrP; omega
    · rw [wr_rd, wr_rd] at q3 q4 q5
      unfold btrP; omega
    · rw [wr_rd, wr_rd] at q3 q4 q5
      omega
  · rw [wr_of (by omega) (by omega), wr_of (by omega) (by omega)] at q
    refine ⟨fun q3 => ⟨Or.inr rfl, yes (Or.inl ⟨q, Or.inl q3⟩), rfl, rfl⟩, fun q3 => ⟨fun q4 => ⟨Or.inl rfl, no ?_, rfl, rfl⟩, fun q4 => ⟨fun q5 => ⟨Or.inl rfl, no ?_, rfl, rfl⟩, fun q5 => ⟨Or.inr rfl, yes (Or.inl ⟨q, Or.inr ⟨q4, ?_⟩⟩), rfl, rfl⟩⟩⟩⟩
    · replace q3 : ¬ wr (arrM mm (grpM mm v)) < wr (arrM mm (grpM mm t)) := q3
      replace q4 : ¬ wr (arrM mm (grpM mm t)) = wr (arrM mm (grpM mm v)) := q4
      unfold btrP; omega
    · replace q3 : ¬ wr (arrM mm (grpM mm v)) < wr (arrM mm (grpM mm t)) := q3
      rw [wr_of (by omega) (by omega), wr_of (by omega) (by omega)] at q5
      unfold btrP; omega
    · rw [wr_of (by omega) (by omega), wr_of (by omega) (by omega)] at q5; omega
noncomputable def chsP (mm : Mm) (s n u t : Int) : Prop := mwnP mm t n ∧ ¬ goP mm t ∧ rd mm 83 0 t = 0 ∧ msuP mm t s n u (rd mm 57 0 t)
noncomputable def chsQ (mm : Mm) (s n u r t : Int) : Prop := chsP mm s n u t ∧ (r < 0 ∨ btrP mm t r s n u)
noncomputable def chsB (mm : Mm) (s n u : Int) : Nat → Int → Int → Int
  | 0, _, r => r
  | k + 1, t, r => chsB mm s n u k (t + 1) (pif (chsQ mm s n u r t) t r)
noncomputable def chsR (mm : Mm) (s n u : Int) : Int := chsB mm s n u (rd mm 40 0 25).toNat 0 (-1)
noncomputable def chsC (mm : Mm) (s n u : Int) : Mm := pif (0 ≤ chsR mm s n u) (mbgC mm s (chsR mm s n u)) mm
set_option maxRecDepth 100000 in
set_option maxHeartbeats 400000 in
theorem M_choose (s9 n u : Int) (mm : Mm) (o : Int64) (hI : IM mm) (s0 : 0 ≤ s9) (s1 : s9 < 3) (n0 : 0 ≤ n) (n1 : n < 30) (u0 : 0 ≤ u) (u1 : u < 24) : MetX iX11_choose [xr 40 0, xi s9, xi n, xi u] mm o (rtv (chsC mm s9 n u) o) := by
  refine MetX.of 0 (by decide +kernel) rfl (Nat.le_of_ble_eq_true rfl) ⟨by decide, by decide⟩ ?_
  intro p l e s m args below meth c Q V D ad A hC hN hok hF
  have ht0 := hI.2.1.1
  have ht1 := hI.2.1.2
  have loop : ∀ (k : Nat) (t r : Int), 0 ≤ t → t + k = rd mm 40 0 25 → -1 ≤ r → r < 24 → chsB mm s9 n u k t r = chsR mm s9 n u → Wx p l e (mrm iX11_choose) s m args below meth c 0 0 Q V D ad A 7 6 [(0, xr 40 0), (1, xi s9), (2, xi n), (3, xi u), (4, xi r), (5, xi t)] [] mm o := by
    intro k
    induction k with
    | zero =>
      intro t r t0 ht r0 r1 he
      have he' : r = chsR mm s9 n u := he
      refine wpx hC tkX11_choose hF [6] 200 ?_
      refine ⟨fun _ => ⟨fun q => ⟨rfl, pif_f ?_, rfl⟩, fun q => ?_⟩, fun q => ?_⟩
      · rw [wr_of (by omega) (by omega)] at q; omega
      · rw [wr_of (by omega) (by omega)] at q
        refine Wx.callV (x := iX11_choose) (y := iX11_begin) (k := 40) (avs := [_, _]) (rest := []) hC hN tkX11_choose rfl rfl kX11_begin rfl (M_begin _ _ _ _ s0 s1) ⟨rfl, rfl⟩ rfl (Nat.le_of_ble_eq_true rfl) (by exact nol rfl) ?_
        rintro r mm' o' ⟨rfl, rfl, rfl⟩
        refine wpx hC tkX11_choose hF [] 200 ?_
        exact ⟨rfl, by rw [he']; exact pif_t (by omega), rfl⟩
      · rw [wr_rd, wr_of (by omega) (by omega)] at q; omega
    | succ k ih =>
      intro t r t0 ht r0 r1 he
      have next : ∀ r8 x6, r8 = pif (chsQ mm s9 n u r t) t r → Wx p l e (mrm iX11_choose) s m args below meth c 0 0 Q V D ad A 7 101 [(0, xr 40 0), (1, xi s9), (2, xi n), (3, xi u), (4, xi r), (5, xi t), (6, xi x6)] [xi r8] mm o := by
        intro r8 x6 h8
        have hb : -1 ≤ r8 ∧ r8 < 24 := by
          rw [h8]
          by_cases q : chsQ mm s9 n u r t
          · rw [pif_t q]; omega
          · rw [pif_f q]; omega
        refine wpx hC tkX11_choose hF [6] 200 ?_
        exact Wx.pick [0, 1, 2, 3, 4, 5] rfl (ih (t + 1) r8 (by omega) (by omega) hb.1 hb.2 (by rw [← he, h8]; rfl))
      have t2 : 0 ≤ t ∧ t < 24 := by omega
      have t3 : 0 ≤ t ∧ t < 34 := by omega
      obtain ⟨-, ⟨l0, l1⟩, ⟨i0, i1⟩⟩ := hI.2.2.2.1 _ t3.1 t3.2
      have no : ¬ chsP mm s9 n u t → Wx p l e (mrm iX11_choose) s m args below meth c 0 0 Q V D ad A 7 68 [(0, xr 40 0), (1, xi s9), (2, xi n), (3, xi u), (4, xi r), (5, xi t)] [xi 0] mm o := by
        intro h
        refine wpx hC tkX11_choose hF [101] 200 ?_
        exact ⟨fun _ => next r 0 (pif_f (fun h9 => h h9.1)).symm, fun h => absurd rfl h⟩
      refine wpx hC tkX11_choose hF [6, 68] 200 ?_
      refine ⟨fun q => ?_, fun _ => ?_⟩
      · rw [wr_rd, wr_of (by omega) (by omega)] at q; omega
      refine Wx.callV (x := iX11_choose) (y := iX11_wanting) (k := 40) (avs := [_, _]) (rest := []) hC hN tkX11_choose rfl rfl kX11_wanting rfl (M_wanting _ _ _ _ t2.1 t2.2 (hI.2.2.2.2.2.2 t t2.1 t2.2)) ⟨rfl, rfl⟩ rfl (Nat.le_of_ble_eq_true rfl) (by exact nol rfl) ?_
      rintro r mm' o' ⟨rfl, rfl, rfl⟩
      refine wpx hC tkX11_choose hF [68] 200 ?_
      refine ⟨fun q => Wx.pick [0, 1, 2, 3, 4, 5] rfl (no (fun h => nb q h.1)), fun q1 => ?_⟩
      refine Wx.callV (x := iX11_choose) (y := iX11_goesOn) (k := 40) (avs := [_]) (rest := []) hC hN tkX11_choose rfl rfl kX11_goesOn rfl (M_goesOn _ _ _ (wr_of (by omega) (by omega))) ⟨rfl, rfl⟩ rfl (Nat.le_of_ble_eq_true rfl) (by exact nol rfl) ?_
      rintro r mm' o' ⟨rfl, rfl, rfl⟩
      refine wpx hC tkX11_choose hF [68] 200 ?_
      refine ⟨fun q => Wx.pick [0, 1, 2, 3, 4, 5] rfl (no (fun h => h.2.1 (yb q))), fun q2 => ⟨t2, fun q => Wx.pick [0, 1, 2, 3, 4, 5] rfl (no (fun h => ?_)), fun q3 => ⟨t3, ?_⟩⟩⟩
      · rw [wr_rd] at q; exact q h.2.2.1
      rw [wr_rd] at q3
      refine Wx.callV (x := iX11_choose) (y := iX11_suits) (k := 40) (avs := [_, _, _, _, _]) (rest := []) hC hN tkX11_choose rfl rfl kX11_suits rfl (M_msuits _ _ _ _ _ _ _ t3.1 t3.2 s0 s1 n0 n1 u0 u1 (by omega) (by omega) i0 i1) ⟨rfl, rfl⟩ rfl (Nat.le_of_ble_eq_true rfl) (by exact nol rfl) ?_
      rintro r mm' o' ⟨rfl, rfl, rfl⟩
      refine wpx hC tkX11_choose hF [68] 200 ?_
      refine ⟨fun q => Wx.pick [0, 1, 2, 3, 4, 5] rfl (no (fun h => nb q h.2.2.2)), fun q4 => ?_⟩
      have hP : chsP mm s9 n u t := ⟨yb q1, nb q2, q3, yb q4⟩
      refine wpx hC tkX11_choose hF [101] 200 ?_
      refine ⟨fun h => absurd h (by decide), fun _ => ⟨fun q => next t 1 (pif_t ⟨hP, Or.inl (by rw [wr_of (by omega) (by omega)] at q; exact q)⟩).symm, fun q => ?_⟩⟩
      rw [wr_of (by omega) (by omega)] at q
      refine Wx.callV (x := iX11_choose) (y := iX11_better) (k := 40) (avs := [_, _, _, _, _]) (rest := []) hC hN tkX11_choose rfl rfl kX11_better rfl (M_better _ _ _ _ _ _ _ hI t2.1 t2.2 (by omega) r1 s0 s1 u0 u1) ⟨rfl, rfl⟩ rfl (Nat.le_of_ble_eq_true rfl) (by exact nol rfl) ?_
      rintro r mm' o' ⟨rfl, rfl, rfl⟩
      refine wpx hC tkX11_choose hF [101] 200 ?_
      exact ⟨fun q9 => next r 1 (pif_f (fun h => by rcases h.2 with h | h; omega; exact nb q9 h)).symm, fun q9 => next t 1 (pif_t ⟨hP, Or.inr (yb q9)⟩).symm⟩
  refine wpx hC tkX11_choose hF [6] 200 ?_
  exact loop (rd mm 40 0 25).toNat 0 (-1) (by decide) (by omega) (by decide) (by decide) rfl
