/-! ===== Plan.firstBegin, Book, Visit, Archive ===== -/
theorem wr_jand (a b : Int) : wr (jand a b) = jand a b := wr_toInt _
theorem wr_jor (a b : Int) : wr (jor a b) = jor a b := wr_toInt _
theorem rd_st_ne {mm : Mm} {k k' : Nat} {i j i' j' v : Int} (h : k' ≠ k) : rd (st mm k i j v) k' i' j' = rd mm k' i' j' := by
  rw [rd_st, if_neg (fun q => h q.1)]
theorem rb_t {p : Prop} (h : p) : some (xi 1) = some (xi (bz p)) := by rw [bz_t h]
theorem rb_f {p : Prop} (h : ¬ p) : some (xi 0) = some (xi (bz p)) := by rw [bz_f h]
/-- for j from c on, n times -/
def fori (f : Int → Mm → Mm) : Nat → Int → Mm → Mm
  | 0, _, mm => mm
  | n + 1, c, mm => fori f n (c + 1) (f c mm)
noncomputable def fbC (mm : Mm) (a i n u : Int) : Int := fup (fun v => suitC mm 18 a i (n * 24 + v) (rd mm 18 a 3)) (24 - u).toNat u
set_option maxRecDepth 100000 in
set_option maxHeartbeats 400000 in
theorem M_firstBegin (a i n u : Int) (mm : Mm) (o : Int64) (n0 : 0 ≤ n) (n1 : n < 30) (u0 : 0 ≤ u) (u1 : u ≤ 24) (l0 : 0 ≤ rd mm 18 a 3) (l1 : rd mm 18 a 3 ≤ 24) (i0 : 0 ≤ rd mm 18 a 4) (i1 : rd mm 18 a 4 < 3) : MetX iX5_firstBegin [xr 5 0, xr 18 a, xr 11 i, xi n, xi u] mm o (rto (xi (fbC mm a i n u)) mm o) := by
  refine MetX.of 1 (by decide +kernel) rfl (Nat.le_of_ble_eq_true rfl) ⟨by decide, by decide⟩ ?_
  intro p l e s m args below meth c Q V D ad A hC hN hok hF
  refine wpx hC tkX5_firstBegin hF [4] 200 ?_
  have loop : ∀ (k : Nat) (v : Int), 0 ≤ v → v + k = 24 → fup (fun v => suitC mm 18 a i (n * 24 + v) (rd mm 18 a 3)) k v = fbC mm a i n u → Wx p l e (mrm iX5_firstBegin) s m args below meth c 0 0 Q V D ad A 6 4 [(0, xr 5 0), (1, xr 18 a), (2, xr 11 i), (3, xi n), (4, xi u), (5, xi v)] [] mm o := by
    intro k
    induction k with
    | zero =>
      intro v v0 hv he
      refine wpx hC tkX5_firstBegin hF [4] 200 ?_
      refine ⟨fun q => ⟨by rw [← he]; rfl, rfl, rfl⟩, fun q => ?_⟩
      rw [show wr 24 = 24 from rfl, wr_of (by omega) (by omega)] at q; omega
    | succ k ih =>
      intro v v0 hv he
      refine wpx hC tkX5_firstBegin hF [4] 200 ?_
      refine ⟨fun q => ?_, fun q => ?_⟩
      · rw [show wr 24 = 24 from rfl, wr_of (by omega) (by omega)] at q; omega
      refine Wx.callV (x := iX5_firstBegin) (y := iX5_suits) (k := 5) (avs := [_, _, _, _]) (rest := []) hC hN tkX5_firstBegin rfl rfl kX5_suits rfl (M_suits 18 _ _ _ _ _ _ (by decide) (by omega) (by omega) l0 l1 i0 i1) ⟨rfl, rfl⟩ rfl (Nat.le_of_ble_eq_true rfl) (by exact nol rfl) ?_
      rintro r mm' o' ⟨rfl, rfl, rfl⟩
      refine wpx hC tkX5_firstBegin hF [4] 200 ?_
      refine ⟨fun q2 => ?_, fun q2 => ?_⟩
      · rw [wr_bz] at q2
        refine ih (v + 1) (by omega) (by omega) ?_
        rw [← he]
        exact (pif_f (bz_0.mp q2)).symm
      · rw [wr_bz] at q2
        refine ⟨?_, rfl, rfl⟩
        rw [← he]
        have h9 : suitC mm 18 a i (n * 24 + v) (rd mm 18 a 3) := Classical.not_not.mp (fun z => q2 (bz_0.mpr z))
        rw [show fup (fun v => suitC mm 18 a i (n * 24 + v) (rd mm 18 a 3)) (k + 1) v = v from pif_t h9]
  exact loop (24 - u).toNat u u0 (by omega) rfl
def phP (mm : Mm) (b t n j : Int) : Prop := wr (jabs (n - rd mm 18 t 13 - j * rd mm 18 t 14)) ≤ rd mm 18 t 15 ∧ jand (rd mm 23 b (rd mm 18 t 9)) (jshl 1 j) = 0
noncomputable def opC (mm : Mm) (b t n : Int) : Int := fup (phP mm b t n) (rd mm 18 t 11).toNat 0
set_option maxRecDepth 100000 in
set_option maxHeartbeats 400000 in
theorem M_openPhase (b t n : Int) (mm : Mm) (o : Int64) (t0 : 0 ≤ rd mm 18 t 9) (t1 : rd mm 18 t 9 < 24) : MetX iX3_openPhase [xr 20 b, xr 18 t, xi n] mm o (rto (xi (opC mm b t n)) mm o) := by
  refine MetX.of 1 (by decide +kernel) rfl (Nat.le_of_ble_eq_true rfl) ⟨by decide, by decide⟩ ?_
  intro p l e s m args below meth c Q V D ad A hC hN hok hF
  refine wpx hC tkX3_openPhase hF [2] 200 ?_
  have hv1 := rd_hi mm 18 t 11
  have loop : ∀ (k : Nat) (v : Int), 0 ≤ v → v + k = max 0 (rd mm 18 t 11) → fup (phP mm b t n) k v = opC mm b t n → Wx p l e (mrm iX3_openPhase) s m args below meth c 0 0 Q V D ad A 5 2 [(0, xr 20 b), (1, xr 18 t), (2, xi n), (3, xi v)] [] mm o := by
    intro k
    induction k with
    | zero =>
      intro v v0 hv he
      refine wpx hC tkX3_openPhase hF [2] 200 ?_
      refine ⟨fun q => ⟨by rw [← he]; rfl, rfl, rfl⟩, fun q => ?_⟩
      rw [wr_rd, wr_of (by omega) (by omega)] at q; omega
    | succ k ih =>
      intro v v0 hv he
      refine wpx hC tkX3_openPhase hF [2] 200 ?_
      refine ⟨fun q => ?_, fun q => ?_⟩
      · rw [wr_rd, wr_of (by omega) (by omega)] at q; omega
      refine ⟨fun q2 => ?_, fun q2 => ?_⟩
      · rw [wr_rd] at q2
        refine Wx.pick [0, 1, 2, 3] rfl (ih (v + 1) (by omega) (by omega) ?_)
        rw [← he]
        exact (pif_f (fun h => by have := h.1; omega)).symm
      · rw [wr_rd] at q2
        refine ⟨⟨t0, t1⟩, fun q3 => ?_, fun q3 => ?_⟩
        · rw [wr_jand] at q3
          refine Wx.pick [0, 1, 2, 3] rfl (ih (v + 1) (by omega) (by omega) ?_)
          rw [← he]
          exact (pif_f (fun h => q3 h.2)).symm
        · rw [wr_jand] at q3
          refine ⟨?_, rfl, rfl⟩
          rw [← he, show fup (phP mm b t n) (k + 1) v = v from pif_t ⟨by omega, q3⟩]
  exact loop (rd mm 18 t 11).toNat 0 (by omega) (by omega) rfl
def wantC (mm : Mm) (b t n : Int) : Prop := (¬ rd mm 18 t 12 = 0 ∧ ¬ opC mm b t n = -1) ∨ (rd mm 18 t 12 = 0 ∧ rd mm 21 b (rd mm 18 t 9) < rd mm 18 t 11 ∧ jand (rd mm 22 b (rd mm 18 t 9)) (jshl 1 n) = 0)
theorem opC_range (mm : Mm) (b t n : Int) : -1 ≤ opC mm b t n ∧ opC mm b t n < 2147483648 := by
  have h := fup_range (phP mm b t n) (rd mm 18 t 11).toNat 0
  have h2 := rd_hi mm 18 t 11
  unfold opC
  omega
set_option maxRecDepth 100000 in
set_option maxHeartbeats 400000 in
theorem M_isWanted (b t n : Int) (mm : Mm) (o : Int64) (t0 : 0 ≤ rd mm 18 t 9) (t1 : rd mm 18 t 9 < 24) : MetX iX3_isWanted [xr 20 b, xr 18 t, xi n] mm o (rto (xi (bz (wantC mm b t n))) mm o) := by
  refine MetX.of 2 (by decide +kernel) rfl (Nat.le_of_ble_eq_true rfl) ⟨by decide, by decide⟩ ?_
  intro p l e s m args below meth c Q V D ad A hC hN hok hF
  refine wpx hC tkX3_isWanted hF [] 200 ?_
  refine ⟨fun q => ?_, fun q => ?_⟩
  · rw [wr_rd] at q
    refine ⟨⟨t0, t1⟩, fun q2 => ?_, fun q2 => ?_⟩
    · rw [wr_rd, wr_rd] at q2
      exact ⟨Or.inl rfl, rb_f (fun h => h.elim (fun z => z.1 q) (fun z => by have := z.2.1; omega)), rfl, rfl⟩
    · rw [wr_rd, wr_rd] at q2
      refine ⟨⟨t0, t1⟩, fun q3 => ?_, fun q3 => ?_⟩
      · rw [wr_jand] at q3
        exact ⟨Or.inl rfl, rb_f (fun h => h.elim (fun z => z.1 q) (fun z => q3 z.2.2)), rfl, rfl⟩
      · rw [wr_jand] at q3
        exact ⟨Or.inr rfl, rb_t (Or.inr ⟨q, by omega, q3⟩), rfl, rfl⟩
  · rw [wr_rd] at q
    refine Wx.callV (x := iX3_isWanted) (y := iX3_openPhase) (k := 20) (avs := [_, _]) (rest := []) hC hN tkX3_isWanted rfl rfl kX3_openPhase rfl (M_openPhase _ _ _ _ _ t0 t1) ⟨rfl, rfl⟩ rfl (Nat.le_of_ble_eq_true rfl) (by exact nol rfl) ?_
    rintro r mm' o' ⟨rfl, rfl, rfl⟩
    refine wpx hC tkX3_isWanted hF [] 200 ?_
    have hr := opC_range mm b t n
    refine ⟨fun q2 => ?_, fun q2 => ?_⟩
    · rw [show wr (-1) = -1 from rfl, wr_of (by omega) (by omega)] at q2
      exact ⟨Or.inl rfl, rb_f (fun h => h.elim (fun z => z.2 q2) (fun z => q z.1)), rfl, rfl⟩
    · rw [show wr (-1) = -1 from rfl, wr_of (by omega) (by omega)] at q2
      exact ⟨Or.inr rfl, rb_t (Or.inl ⟨q, q2⟩), rfl, rfl⟩
noncomputable def phC (mm : Mm) (b t n : Int) : Int := pif (rd mm 18 t 12 = 0) (-1) (opC mm b t n)
noncomputable def ag1 (mm : Mm) (b t n : Int) : Mm := pif (phC mm b t n = -1) mm (st mm 23 b (rd mm 18 t 9) (wr (jor (rd mm 23 b (rd mm 18 t 9)) (jshl 1 (phC mm b t n)))))
def ag2 (mm : Mm) (b t : Int) : Mm := st mm 21 b (rd mm 18 t 9) (wr (rd mm 21 b (rd mm 18 t 9) + 1))
def ag3 (mm : Mm) (b t n : Int) : Mm := st mm 22 b (rd mm 18 t 9) (wr (jor (rd mm 22 b (rd mm 18 t 9)) (jshl 1 n)))
noncomputable def addC (mm : Mm) (b t n : Int) : Mm := ag3 (ag2 (ag1 mm b t n) b t) b t n
set_option maxRecDepth 100000 in
set_option maxHeartbeats 400000 in
theorem M_addGood (b t n : Int) (mm : Mm) (o : Int64) (t0 : 0 ≤ rd mm 18 t 9) (t1 : rd mm 18 t 9 < 24) : MetX iX3_addGood [xr 20 b, xr 18 t, xi n] mm o (rtv (addC mm b t n) o) := by
  refine MetX.of 0 (by decide +kernel) rfl (Nat.le_of_ble_eq_true rfl) ⟨by decide, by decide⟩ ?_
  intro p l e s m args below meth c Q V D ad A hC hN hok hF
  have hj : Wx p l e (mrm iX3_addGood) s m args below meth c 0 0 Q V D ad A 4 17 [(0, xr 20 b), (1, xr 18 t), (2, xi n)] [xi (phC mm b t n)] mm o := by
    have hr : -1 ≤ phC mm b t n ∧ phC mm b t n < 2147483648 := by
      have h := opC_range mm b t n
      unfold phC
      by_cases h12 : rd mm 18 t 12 = 0
      · rw [pif_t h12]; omega
      · rw [pif_f h12]; exact h
    refine wpx hC tkX3_addGood hF [] 200 ?_
    refine ⟨fun q => ?_, fun q => ?_⟩
    · rw [show wr (-1) = -1 from rfl, wr_of (by omega) (by omega)] at q
      have e1 : ag1 mm b t n = mm := pif_t q
      refine ⟨⟨t0, t1⟩, ⟨t0, t1⟩, ?_⟩
      have e2 : rd (st mm 21 b (rd mm 18 t 9) (wr (rd mm 21 b (rd mm 18 t 9) + 1))) 18 t 9 = rd mm 18 t 9 := rd_st_ne (by decide)
      refine ⟨⟨by rw [e2]; exact t0, by rw [e2]; exact t1⟩, ⟨by rw [e2]; exact t0, by rw [e2]; exact t1⟩, rfl, ?_, rfl⟩
      unfold addC; rw [e1]; rfl
    · rw [show wr (-1) = -1 from rfl, wr_of (by omega) (by omega)] at q
      have e1 : ag1 mm b t n = st mm 23 b (rd mm 18 t 9) (wr (jor (rd mm 23 b (rd mm 18 t 9)) (jshl 1 (phC mm b t n)))) := pif_f q
      have e3 : rd (ag1 mm b t n) 18 t 9 = rd mm 18 t 9 := by rw [e1]; exact rd_st_ne (by decide)
      refine ⟨⟨t0, t1⟩, ⟨t0, t1⟩, ?_⟩
      rw [← e1]
      refine ⟨⟨by rw [e3]; exact t0, by rw [e3]; exact t1⟩, ⟨by rw [e3]; exact t0, by rw [e3]; exact t1⟩, ?_⟩
      have e2 : rd (st (ag1 mm b t n) 21 b (rd (ag1 mm b t n) 18 t 9) (wr (rd (ag1 mm b t n) 21 b (rd (ag1 mm b t n) 18 t 9) + 1))) 18 t 9 = rd mm 18 t 9 := (rd_st_ne (by decide)).trans e3
      refine ⟨⟨by rw [e2]; exact t0, by rw [e2]; exact t1⟩, ⟨by rw [e2]; exact t0, by rw [e2]; exact t1⟩, rfl, rfl, rfl⟩
  refine wpx hC tkX3_addGood hF [17] 200 ?_
  refine ⟨fun q => ?_, fun q => ?_⟩
  · rw [wr_rd] at q
    have h9 := hj
    rw [show phC mm b t n = -1 from pif_t q] at h9
    exact h9
  · rw [wr_rd] at q
    refine Wx.callV (x := iX3_addGood) (y := iX3_openPhase) (k := 20) (avs := [_, _]) (rest := []) hC hN tkX3_addGood rfl rfl kX3_openPhase rfl (M_openPhase _ _ _ _ _ t0 t1) ⟨rfl, rfl⟩ rfl (Nat.le_of_ble_eq_true rfl) (by exact nol rfl) ?_
    rintro r mm' o' ⟨rfl, rfl, rfl⟩
    refine wpx hC tkX3_addGood hF [17] 200 ?_
    have h9 := hj
    rw [show phC mm b t n = opC mm b t n from pif_f q] at h9
    exact h9
def allC (mm : Mm) (b : Int) : Int := 0 + rd mm 25 b 0 + rd mm 25 b 1 + rd mm 25 b 2 + rd mm 25 b 3
set_option maxRecDepth 100000 in
set_option maxHeartbeats 400000 in
theorem M_allCounted (b : Int) (mm : Mm) (o : Int64)  : MetX iX3_allCounted [xr 20 b] mm o (rto (xi (allC mm b)) mm o) := by
  refine MetX.of 1 (by decide +kernel) rfl (Nat.le_of_ble_eq_true rfl) ⟨by decide, by decide⟩ ?_
  intro p l e s m args below meth c Q V D ad A hC hN hok hF
  refine wpx hC tkX3_allCounted hF [] 200 ?_
  refine ⟨fun q => absurd q (by decide), fun _ => ⟨by decide, ?_⟩⟩
  refine ⟨fun q => absurd q (by decide), fun _ => ⟨by decide, ?_⟩⟩
  refine ⟨fun q => absurd q (by decide), fun _ => ⟨by decide, ?_⟩⟩
  refine ⟨fun q => absurd q (by decide), fun _ => ⟨by decide, ?_⟩⟩
  exact ⟨fun q => ⟨rfl, rfl, rfl⟩, fun q => absurd (by decide) q⟩
def beginC (mm : Mm) (v kd nm : Int) : Mm := st (st (st (st mm 31 v 0 (wr kd)) 31 v 1 (wr nm)) 31 v 2 (wr 0)) 31 v 3 (wr 0)
set_option maxRecDepth 100000 in
set_option maxHeartbeats 400000 in
theorem M_vbegin (v kd nm : Int) (mm : Mm) (o : Int64)  : MetX iX9_begin [xr 31 v, xi kd, xi nm] mm o (rtv (beginC mm v kd nm) o) := by
  refine MetX.of 0 (by decide +kernel) rfl (Nat.le_of_ble_eq_true rfl) ⟨by decide, by decide⟩ ?_
  intro p l e s m args below meth c Q V D ad A hC hN hok hF
  refine wpx hC tkX9_begin hF [] 200 ?_
  exact ⟨rfl, rfl, rfl⟩
set_option maxRecDepth 100000 in
set_option maxHeartbeats 400000 in
theorem M_vclear (v : Int) (mm : Mm) (o : Int64)  : MetX iX9_clear [xr 31 v] mm o (rtv (beginC mm v 0 (-1)) o) := by
  refine MetX.of 0 (by decide +kernel) rfl (Nat.le_of_ble_eq_true rfl) ⟨by decide, by decide⟩ ?_
  intro p l e s m args below meth c Q V D ad A hC hN hok hF
  refine wpx hC tkX9_clear hF [] 200 ?_
  refine Wx.callV (x := iX9_clear) (y := iX9_begin) (k := 31) (avs := [_, _]) (rest := []) hC hN tkX9_clear rfl rfl kX9_begin rfl (M_vbegin _ _ _ _ _) ⟨rfl, rfl⟩ rfl (Nat.le_of_ble_eq_true rfl) (by exact nol rfl) ?_
  rintro r mm' o' ⟨rfl, rfl, rfl⟩
  refine wpx hC tkX9_clear hF [] 200 ?_
  exact ⟨rfl, rfl, rfl⟩
def tk1 (mm : Mm) (v w j : Int) : Mm := st mm 31 v j (wr (rd mm 31 w j))
def takeC (mm : Mm) (v w : Int) : Mm := beginC (tk1 (tk1 (tk1 (tk1 mm v w 0) v w 1) v w 2) v w 3) w 0 (-1)
set_option maxRecDepth 100000 in
set_option maxHeartbeats 400000 in
theorem M_takeOver (v w : Int) (mm : Mm) (o : Int64)  : MetX iX9_takeOver [xr 31 v, xr 31 w] mm o (rtv (takeC mm v w) o) := by
  refine MetX.of 0 (by decide +kernel) rfl (Nat.le_of_ble_eq_true rfl) ⟨by decide, by decide⟩ ?_
  intro p l e s m args below meth c Q V D ad A hC hN hok hF
  refine wpx hC tkX9_takeOver hF [] 200 ?_
  refine Wx.callV (x := iX9_takeOver) (y := iX9_clear) (k := 31) (avs := []) (rest := []) hC hN tkX9_takeOver rfl rfl kX9_clear rfl (M_vclear _ _ _) ⟨rfl, rfl⟩ rfl (Nat.le_of_ble_eq_true rfl) (by exact nol rfl) ?_
  rintro r mm' o' ⟨rfl, rfl, rfl⟩
  refine wpx hC tkX9_takeOver hF [] 200 ?_
  exact ⟨rfl, rfl, rfl⟩
