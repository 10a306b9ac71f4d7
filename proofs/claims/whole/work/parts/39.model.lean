/-! ===== the model, X: alerts ===== -/
noncomputable def almP (mm : Mm) (s n u a : Int) : Prop := rd mm 75 0 a < 0 ∧ ¬ goP mm (24 + a) ∧ rd mm 68 0 a = n ∧ rd mm 69 0 a ≤ u ∧ u + rd mm 57 0 (24 + a) - 1 ≤ rd mm 70 0 a ∧ msuP mm (24 + a) s n u (rd mm 57 0 (24 + a))
noncomputable def almQ (mm : Mm) (s n u r a : Int) : Prop := almP mm s n u a ∧ (r < 0 ∨ rd mm 67 0 r ≤ rd mm 67 0 a)
noncomputable def almB (mm : Mm) (s n u : Int) : Nat → Int → Int
  | 0, r => r
  | k + 1, r => almB mm s n u k (pif (almQ mm s n u r (k : Int)) (k : Int) r)
theorem almB_r (mm : Mm) (s n u : Int) : ∀ (k : Nat) (r : Int), almB mm s n u k r = r ∨ (0 ≤ almB mm s n u k r ∧ almB mm s n u k r < k)
  | 0, r => Or.inl rfl
  | k + 1, r => by
    unfold almB
    have h := almB_r mm s n u k (pif (almQ mm s n u r (k : Int)) (k : Int) r)
    rcases h with h | h
    · rw [h]
      by_cases q : almQ mm s n u r (k : Int)
      · rw [pif_t q]; omega
      · rw [pif_f q]; omega
    · omega
noncomputable def almR (mm : Mm) (s n u : Int) : Int := almB mm s n u (rd mm 40 0 30).toNat (-1)
noncomputable def almC (mm : Mm) (s n u : Int) : Mm := pif (0 ≤ almR mm s n u ∧ (rd mm 80 0 s < 24 ∨ rd mm 67 0 (rd mm 80 0 s - 24) < rd mm 67 0 (almR mm s n u))) (mbgC (pif (0 ≤ rd mm 80 0 s) (mlsC mm (rd mm 80 0 s) (rd mm 81 0 s)) mm) s (24 + almR mm s n u)) mm
set_option maxRecDepth 100000 in
set_option maxHeartbeats 400000 in
theorem M_alarm (s9 n u : Int) (mm : Mm) (o : Int64) (hI : IM mm) (hV : VM mm) (s0 : 0 ≤ s9) (s1 : s9 < 3) (n0 : 0 ≤ n) (n1 : n < 30) (u0 : 0 ≤ u) (u1 : u < 24) : MetX iX11_alarm [xr 40 0, xi s9, xi n, xi u] mm o (rtv (almC mm s9 n u) o) := by
  refine MetX.of 0 (by decide +kernel) rfl (Nat.le_of_ble_eq_true rfl) ⟨by decide, by decide⟩ ?_
  intro p l e s m args below meth c Q V D ad A hC hN hok hF
  have s2 : 0 ≤ s9 ∧ s9 < 3 := ⟨s0, s1⟩
  have hv := hV s9 s0 s1
  have ha0 := hI.2.2.1.1
  have ha1 := hI.2.2.1.2
  have hr : almR mm s9 n u = -1 ∨ (0 ≤ almR mm s9 n u ∧ almR mm s9 n u < 10) := by
    have h := almB_r mm s9 n u (rd mm 40 0 30).toNat (-1)
    change almR mm s9 n u = -1 ∨ (0 ≤ almR mm s9 n u ∧ almR mm s9 n u < _) at h
    omega
  have fin : ∀ f, ((¬ f = 0) → (0 ≤ almR mm s9 n u ∧ (rd mm 80 0 s9 < 24 ∨ rd mm 67 0 (rd mm 80 0 s9 - 24) < rd mm 67 0 (almR mm s9 n u)))) → (f = 0 → ¬ (0 ≤ almR mm s9 n u ∧ (rd mm 80 0 s9 < 24 ∨ rd mm 67 0 (rd mm 80 0 s9 - 24) < rd mm 67 0 (almR mm s9 n u)))) → wr f = f → Wx p l e (mrm iX11_alarm) s m args below meth c 0 0 Q V D ad A 8 215 [(0, xr 40 0), (1, xi s9), (2, xi n), (3, xi u), (4, xi (almR mm s9 n u))] [xi f] mm o := by
    intro f h1 h0 hf
    have go : ∀ m9, m9 = pif (0 ≤ rd mm 80 0 s9) (mlsC mm (rd mm 80 0 s9) (rd mm 81 0 s9)) mm → ¬ f = 0 → Wx p l e (mrm iX11_alarm) s m args below meth c 0 0 Q V D ad A 8 247 [(0, xr 40 0), (1, xi s9), (2, xi n), (3, xi u), (4, xi (almR mm s9 n u))] [] m9 o := by
      intro m9 h9 hf0
      refine wpx hC tkX11_alarm hF [] 200 ?_
      refine Wx.callV (x := iX11_alarm) (y := iX11_begin) (k := 40) (avs := [_, _]) (rest := []) hC hN tkX11_alarm rfl rfl kX11_begin rfl (M_begin _ _ _ _ s0 s1) ⟨rfl, rfl⟩ rfl (Nat.le_of_ble_eq_true rfl) (by exact nol rfl) ?_
      rintro r mm' o' ⟨rfl, rfl, rfl⟩
      refine wpx hC tkX11_alarm hF [] 200 ?_
      exact ⟨rfl, by rw [h9]; exact pif_t (h1 hf0), rfl⟩
    refine wpx hC tkX11_alarm hF [247] 200 ?_
    refine ⟨fun q => ⟨rfl, pif_f (h0 (by rw [hf] at q; exact q)), rfl⟩, fun q => ?_⟩
    rw [hf] at q
    refine ⟨s2, fun q2 => ?_, fun q2 => ⟨s2, s2, ?_⟩⟩
    · rw [wr_rd] at q2
      exact Wx.pick [0, 1, 2, 3, 4] rfl (go mm (pif_f (by omega)).symm q)
    · rw [wr_rd] at q2
      refine Wx.callV (x := iX11_alarm) (y := iX11_lose) (k := 40) (avs := [_, _]) (rest := []) hC hN tkX11_alarm rfl rfl kX11_lose rfl (M_mlose _ _ _ _ hI (by omega) hv.2) ⟨rfl, rfl⟩ rfl (Nat.le_of_ble_eq_true rfl) (by exact nol rfl) ?_
      rintro r mm' o' ⟨rfl, rfl, rfl⟩
      exact Wx.pick [0, 1, 2, 3, 4] rfl (go _ (pif_t (by omega)).symm q)
  have done : ∀ k, k < 0 → -2147483648 ≤ k → Wx p l e (mrm iX11_alarm) s m args below meth c 0 0 Q V D ad A 8 11 [(0, xr 40 0), (1, xi s9), (2, xi n), (3, xi u), (4, xi (almR mm s9 n u)), (5, xi k)] [] mm o := by
    intro k hk hk2
    refine wpx hC tkX11_alarm hF [11, 215] 200 ?_
    refine ⟨fun _ => ⟨fun q => Wx.pick [0, 1, 2, 3, 4] rfl (fin 0 (fun h => absurd rfl h) (fun _ h => ?_) rfl), fun q => ⟨s2, fun q2 => Wx.pick [0, 1, 2, 3, 4] rfl (fin 1 (fun _ => ?_) (fun h => absurd h (by decide)) rfl), fun q2 => ?_⟩⟩, fun q => absurd (show wr k < 0 by rw [wr_of (by omega) (by omega)]; exact hk) q⟩
    · rw [wr_of (by omega) (by omega)] at q; omega
    · rw [wr_of (by omega) (by omega)] at q; rw [wr_rd, show wr 24 = 24 from rfl] at q2
      exact ⟨by omega, Or.inl q2⟩
    · rw [wr_of (by omega) (by omega)] at q; rw [wr_rd, show wr 24 = 24 from rfl] at q2
      refine ⟨s2, ⟨by omega, by show rd mm 80 0 s9 - 24 < (10 : Int); omega⟩, ⟨by omega, by show almR mm s9 n u < (10 : Int); omega⟩, fun q3 => Wx.pick [0, 1, 2, 3, 4] rfl (fin 0 (fun h => absurd rfl h) (fun _ h => ?_) rfl), fun q3 => Wx.pick [0, 1, 2, 3, 4] rfl (fin 1 (fun _ => ⟨by omega, Or.inr ?_⟩) (fun h => absurd h (by decide)) rfl)⟩
      · rw [wr_rd, wr_rd] at q3; omega
      · rw [wr_rd, wr_rd] at q3; omega
  have loop : ∀ (k : Nat) (r : Int), k ≤ 10 → -1 ≤ r → r < 10 → almB mm s9 n u k r = almR mm s9 n u → Wx p l e (mrm iX11_alarm) s m args below meth c 0 0 Q V D ad A 8 11 [(0, xr 40 0), (1, xi s9), (2, xi n), (3, xi u), (4, xi r), (5, xi ((k : Int) - 1))] [] mm o := by
    intro k
    induction k with
    | zero =>
      intro r hk r0 r1 he
      have he' : r = almR mm s9 n u := he
      rw [he']
      exact done _ (by decide) (by decide)
    | succ k ih =>
      intro r hk r0 r1 he
      have ek : ((k + 1 : Nat) : Int) - 1 = (k : Int) := by omega
      have next : ∀ r8, r8 = pif (almQ mm s9 n u r (k : Int)) (k : Int) r → Wx p l e (mrm iX11_alarm) s m args below meth c 0 0 Q V D ad A 8 162 [(0, xr 40 0), (1, xi s9), (2, xi n), (3, xi u), (4, xi r), (5, xi (((k + 1 : Nat) : Int) - 1))] [xi r8] mm o := by
        intro r8 h8
        have hb : -1 ≤ r8 ∧ r8 < 10 := by
          rw [h8]
          by_cases q : almQ mm s9 n u r (k : Int)
          · rw [pif_t q]; omega
          · rw [pif_f q]; omega
        refine wpx hC tkX11_alarm hF [11] 200 ?_
        have h9 := ih r8 (by omega) hb.1 hb.2 (by rw [h8]; exact he)
        rw [show (k : Int) - 1 = ((k + 1 : Nat) : Int) - 1 + (-1) by omega] at h9
        exact h9
      have sel : ∀ x7 x6, ((¬ x7 = 0) → almQ mm s9 n u r (k : Int)) → (x7 = 0 → ¬ almQ mm s9 n u r (k : Int)) → wr x7 = x7 → Wx p l e (mrm iX11_alarm) s m args below meth c 0 0 Q V D ad A 8 148 [(0, xr 40 0), (1, xi s9), (2, xi n), (3, xi u), (4, xi r), (5, xi (((k + 1 : Nat) : Int) - 1)), (6, xi x6)] [xi x7] mm o := by
        intro x7 x6 h1 h0 hx
        refine wpx hC tkX11_alarm hF [162] 200 ?_
        refine ⟨fun q => Wx.pick [0, 1, 2, 3, 4, 5] rfl (next r (pif_f (h0 (by rw [hx] at q; exact q))).symm), fun q => Wx.pick [0, 1, 2, 3, 4, 5] rfl (next _ (ek.trans (pif_t (h1 (by rw [hx] at q; exact q))).symm))⟩
      have no : ¬ almP mm s9 n u (k : Int) → Wx p l e (mrm iX11_alarm) s m args below meth c 0 0 Q V D ad A 8 89 [(0, xr 40 0), (1, xi s9), (2, xi n), (3, xi u), (4, xi r), (5, xi (((k + 1 : Nat) : Int) - 1))] [xi 0] mm o := by
        intro h
        refine wpx hC tkX11_alarm hF [148] 200 ?_
        exact ⟨fun _ => sel 0 0 (fun h => absurd rfl h) (fun _ h9 => h h9.1) rfl, fun h => absurd rfl h⟩
      have t2 : 0 ≤ ((k + 1 : Nat) : Int) - 1 ∧ ((k + 1 : Nat) : Int) - 1 < 10 := by omega
      have t3 : 0 ≤ 24 + (((k + 1 : Nat) : Int) - 1) ∧ 24 + (((k + 1 : Nat) : Int) - 1) < 34 := by omega
      obtain ⟨-, ⟨l0, l1⟩, ⟨i0, i1⟩⟩ := hI.2.2.2.1 _ t3.1 t3.2
      refine wpx hC tkX11_alarm hF [11, 89] 200 ?_
      refine ⟨fun q => ?_, fun _ => ⟨t2, fun q => no (fun h => ?_), fun q1 => ?_⟩⟩
      · rw [wr_of (by omega) (by omega)] at q; omega
      · rw [wr_rd, ek] at q; have := h.1; omega
      rw [wr_rd, ek] at q1
      refine Wx.callV (x := iX11_alarm) (y := iX11_goesOn) (k := 40) (avs := [_]) (rest := []) hC hN tkX11_alarm rfl rfl kX11_goesOn rfl (M_goesOn _ _ _ (wr_of (by omega) (by omega))) ⟨rfl, rfl⟩ rfl (Nat.le_of_ble_eq_true rfl) (by exact nol rfl) ?_
      rintro r mm' o' ⟨rfl, rfl, rfl⟩
      refine wpx hC tkX11_alarm hF [89] 200 ?_
      refine ⟨fun q => no (fun h => ?_), fun q2 => ⟨t2, fun q => no (fun h => ?_), fun q3 => ⟨t2, fun q => no (fun h => ?_), fun q4 => ⟨t3, t2, fun q => no (fun h => ?_), fun q5 => ?_⟩⟩⟩⟩
      · have h9 := yb q; rw [ek] at h9; exact h.2.1 h9
      · rw [wr_rd, wr_of (by omega) (by omega), ek] at q; exact q h.2.2.1
      · rw [wr_rd, wr_of (by omega) (by omega), ek] at q; have := h.2.2.2.1; omega
      · replace q : wr (rd mm 70 0 (((k + 1 : Nat) : Int) - 1)) < wr (u + rd mm 57 0 (24 + (((k + 1 : Nat) : Int) - 1)) - 1) := q
        rw [wr_rd, wr_of (by omega) (by omega), ek] at q; have := h.2.2.2.2.1; omega
      have h2 := nb q2
      rw [wr_rd, wr_of (by omega) (by omega), ek] at q3
      rw [wr_rd, wr_of (by omega) (by omega), ek] at q4
      replace q5 : ¬ wr (rd mm 70 0 (((k + 1 : Nat) : Int) - 1)) < wr (u + rd mm 57 0 (24 + (((k + 1 : Nat) : Int) - 1)) - 1) := q5
      rw [wr_rd, wr_of (by omega) (by omega), ek] at q5
      rw [ek] at h2
      refine wpx hC tkX11_alarm hF [148] 200 ?_
      refine ⟨fun h => absurd h (by decide), fun _ => ⟨t3, ?_⟩⟩
      refine Wx.callV (x := iX11_alarm) (y := iX11_suits) (k := 40) (avs := [_, _, _, _, _]) (rest := []) hC hN tkX11_alarm rfl rfl kX11_suits rfl (M_msuits _ _ _ _ _ _ _ t3.1 t3.2 s0 s1 n0 n1 u0 u1 (by omega) (by omega) i0 i1) ⟨rfl, rfl⟩ rfl (Nat.le_of_ble_eq_true rfl) (by exact nol rfl) ?_
      rintro r mm' o' ⟨rfl, rfl, rfl⟩
      refine wpx hC tkX11_alarm hF [148] 200 ?_
      refine ⟨fun q => sel 0 1 (fun h => absurd rfl h) (fun _ h => ?_) rfl, fun q6 => ?_⟩
      · have h9 := nb q; rw [ek] at h9; exact h9 h.1.2.2.2.2.2
      have h6 := yb q6
      rw [ek] at h6
      have hP : almP mm s9 n u (k : Int) := ⟨by omega, h2, q3, by omega, by omega, h6⟩
      refine ⟨fun q => sel 1 1 (fun _ => ⟨hP, Or.inl ?_⟩) (fun h => absurd h (by decide)) rfl, fun q => ?_⟩
      · rw [wr_of (by omega) (by omega)] at q; exact q
      rw [wr_of (by omega) (by omega)] at q
      refine ⟨t2, ⟨by omega, by show r < (10 : Int); omega⟩, fun q7 => sel 0 1 (fun h => absurd rfl h) (fun _ h => ?_) rfl, fun q7 => sel 1 1 (fun _ => ⟨hP, Or.inr ?_⟩) (fun h => absurd h (by decide)) rfl⟩
      · rw [wr_rd, wr_rd, ek] at q7; have := h.2; omega
      · rw [wr_rd, wr_rd, ek] at q7; omega
  refine wpx hC tkX11_alarm hF [11] 200 ?_
  have h := loop (rd mm 40 0 30).toNat (-1) (by omega) (by decide) (by decide) rfl
  rw [show (((rd mm 40 0 30).toNat : Nat) : Int) - 1 = rd mm 40 0 30 - 1 by omega] at h
  exact h
