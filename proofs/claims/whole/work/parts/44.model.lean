/-! ===== the model, XV: a site's slot ===== -/
set_option maxRecDepth 100000 in
set_option maxHeartbeats 400000 in
theorem M_msite (s9 n u : Int) (mm : Mm) (o : Int64) (hM : MV mm) (s0 : 0 ≤ s9) (s1 : s9 < 3) (n0 : 0 ≤ n) (n1 : n < 30) (u0 : 0 ≤ u) (u1 : u < 24) : MetX iX11_site [xr 40 0, xi s9, xi n, xi u] mm o (rtv (siM mm s9 n u) o) := by
  refine MetX.of 0 (by decide +kernel) rfl (Nat.le_of_ble_eq_true rfl) ⟨by decide, by decide⟩ ?_
  intro p l e s m args below meth c Q V D ad A hC hN hok hF
  have s2 : 0 ≤ s9 ∧ s9 < 3 := ⟨s0, s1⟩
  have pE : ∀ m9, MV m9 → siE m9 s9 n u = siM mm s9 n u → Wx p l e (mrm iX11_site) s m args below meth c 0 0 Q V D ad A 5 71 [(0, xr 40 0), (1, xi s9), (2, xi n), (3, xi u)] [] m9 o := by
    intro m9 h9 he
    have hv := h9.2.1 s9 s0 s1
    refine wpx hC tkX11_site hF [137] 200 ?_
    refine ⟨s2, fun q => ⟨s2, s2, ?_⟩, fun q => ⟨s2, s2, rfl, ?_, rfl⟩⟩
    · rw [wr_rd] at q
      have h8 : MV (si1 m9 s9) := MV_st h9 _ _ _ _ (by decide)
      have e1 : siE m9 s9 n u = si3 (si2 (si1 m9 s9) s9 n u) s9 n u := pif_f (by omega)
      have fin : ∀ z, z = pif (msnC (si1 m9 s9) s9 n u ≤ rd (si1 m9 s9) 82 0 s9) (rd (si1 m9 s9) 82 0 s9) (msnC (si1 m9 s9) s9 n u) → ∀ x, Wx p l e (mrm iX11_site) s m args below meth c 0 0 Q V D ad A 5 137 [(0, xr 40 0), (1, xi s9), (2, xi n), (3, xi u), (4, xi x)] [xi z, xi s9, xr 82 0] (si1 m9 s9) o := by
        rintro z rfl x
        have h7 : MV (si2 (si1 m9 s9) s9 n u) := MV_st h8 _ _ _ _ (by decide)
        have hv7 := h7.2.1 s9 s0 s1
        have e80 : rd (si2 (si1 m9 s9) s9 n u) 80 0 s9 = rd m9 80 0 s9 := by
          unfold si2 si1
          rw [rd_st_ne (by decide), rd_st_ne (by decide)]
        have w3 : 0 ≤ rd (si2 (si1 m9 s9) s9 n u) 80 0 s9 ∧ rd (si2 (si1 m9 s9) s9 n u) 80 0 s9 < 34 := by omega
        refine wpx hC tkX11_site hF [] 200 ?_
        refine ⟨s2, s2, s2, w3, fun q2 => ⟨rfl, ?_, rfl⟩, fun q2 => ?_⟩
        · replace q2 : ¬ wr (rd (si2 (si1 m9 s9) s9 n u) 81 0 s9) = wr (rd (si2 (si1 m9 s9) s9 n u) 57 0 (rd (si2 (si1 m9 s9) s9 n u) 80 0 s9)) := q2
          rw [wr_rd, wr_rd] at q2
          rw [← he, e1]
          exact pif_f q2
        · replace q2 : wr (rd (si2 (si1 m9 s9) s9 n u) 81 0 s9) = wr (rd (si2 (si1 m9 s9) s9 n u) 57 0 (rd (si2 (si1 m9 s9) s9 n u) 80 0 s9)) := q2
          rw [wr_rd, wr_rd] at q2
          refine Wx.callV (x := iX11_site) (y := iX11_done) (k := 40) (avs := [_, _, _]) (rest := []) hC hN tkX11_site rfl rfl kX11_done rfl (M_done s9 n u (si2 (si1 m9 s9) s9 n u) _ h7.1 h7.2.2 s0 s1 n0 n1 w3.1 w3.2) ⟨rfl, rfl⟩ rfl (Nat.le_of_ble_eq_true rfl) (by exact nol rfl) ?_
          rintro r mm' o' ⟨rfl, rfl, rfl⟩
          refine wpx hC tkX11_site hF [] 200 ?_
          exact ⟨rfl, by rw [← he, e1]; exact pif_t q2, rfl⟩
      refine Wx.callV (x := iX11_site) (y := iX11_seen) (k := 40) (avs := [_, _, _]) (rest := []) hC hN tkX11_site rfl rfl kX11_seen rfl (M_seen s9 n u (si1 m9 s9) _ s0 s1 n0 n1 u0 u1) ⟨rfl, rfl⟩ rfl (Nat.le_of_ble_eq_true rfl) (by exact nol rfl) ?_
      rintro r mm' o' ⟨rfl, rfl, rfl⟩
      refine wpx hC tkX11_site hF [137] 200 ?_
      refine ⟨s2, fun q2 => ⟨s2, fin _ (pif_t ?_).symm _⟩, fun q2 => fin _ (pif_f ?_).symm _⟩
      · replace q2 : wr (msnC (si1 m9 s9) s9 n u) ≤ wr (rd (si1 m9 s9) 82 0 s9) := q2
        rw [wr_msn, wr_rd] at q2; exact q2
      · replace q2 : ¬ wr (msnC (si1 m9 s9) s9 n u) ≤ wr (rd (si1 m9 s9) 82 0 s9) := q2
        rw [wr_msn, wr_rd] at q2; exact q2
    · rw [wr_rd] at q
      rw [← he]; exact pif_t (by omega)
  have pD : ∀ m9, MV m9 → siE (siD m9 s9 n u) s9 n u = siM mm s9 n u → Wx p l e (mrm iX11_site) s m args below meth c 0 0 Q V D ad A 5 55 [(0, xr 40 0), (1, xi s9), (2, xi n), (3, xi u)] [] m9 o := by
    intro m9 h9 he
    refine wpx hC tkX11_site hF [71] 200 ?_
    refine ⟨s2, fun q => pE m9 h9 ?_, fun q => ?_⟩
    · rw [wr_rd] at q
      rw [← he, show siD m9 s9 n u = m9 from pif_f (by omega)]
    · rw [wr_rd] at q
      refine Wx.callV (x := iX11_site) (y := iX11_choose) (k := 40) (avs := [_, _, _]) (rest := []) hC hN tkX11_site rfl rfl kX11_choose rfl (M_choose _ _ _ _ _ h9.1 s0 s1 n0 n1 u0 u1) ⟨rfl, rfl⟩ rfl (Nat.le_of_ble_eq_true rfl) (by exact nol rfl) ?_
      rintro r mm' o' ⟨rfl, rfl, rfl⟩
      exact pE _ (MV_chs h9 _ _ _) (by rw [← he, show siD m9 s9 n u = chsC m9 s9 n u from pif_t (by omega)])
  have pB : ∀ m9, MV m9 → siE (siD (siB m9 s9 n u) s9 n u) s9 n u = siM mm s9 n u → Wx p l e (mrm iX11_site) s m args below meth c 0 0 Q V D ad A 5 39 [(0, xr 40 0), (1, xi s9), (2, xi n), (3, xi u)] [] m9 o := by
    intro m9 h9 he
    refine wpx hC tkX11_site hF [55] 200 ?_
    refine ⟨s2, fun q => pD m9 h9 ?_, fun q => ?_⟩
    · rw [wr_rd] at q
      rw [← he, show siB m9 s9 n u = m9 from pif_f (by omega)]
    · rw [wr_rd] at q
      refine Wx.callV (x := iX11_site) (y := iX11_resume) (k := 40) (avs := [_, _, _]) (rest := []) hC hN tkX11_site rfl rfl kX11_resume rfl (M_mresume _ _ _ _ _ h9.1 s0 s1 n0 n1 u0 u1) ⟨rfl, rfl⟩ rfl (Nat.le_of_ble_eq_true rfl) (by exact nol rfl) ?_
      rintro r mm' o' ⟨rfl, rfl, rfl⟩
      exact pD _ (MV_rsm h9 _ _ _) (by rw [← he, show siB m9 s9 n u = rsmC m9 s9 n u from pif_t (by omega)])
  refine wpx hC tkX11_site hF [] 200 ?_
  refine Wx.callV (x := iX11_site) (y := iX11_seen) (k := 40) (avs := [_, _, _]) (rest := []) hC hN tkX11_site rfl rfl kX11_seen rfl (M_seen _ _ _ _ _ s0 s1 n0 n1 u0 u1) ⟨rfl, rfl⟩ rfl (Nat.le_of_ble_eq_true rfl) (by exact nol rfl) ?_
  rintro r mm' o' ⟨rfl, rfl, rfl⟩
  refine wpx hC tkX11_site hF [] 200 ?_
  refine ⟨fun q => ?_, fun q => ?_⟩
  · rw [wr_msn] at q
    refine Wx.callV (x := iX11_site) (y := iX11_alarm) (k := 40) (avs := [_, _, _]) (rest := []) hC hN tkX11_site rfl rfl kX11_alarm rfl (M_alarm _ _ _ _ _ hM.1 hM.2.1 s0 s1 n0 n1 u0 u1) ⟨rfl, rfl⟩ rfl (Nat.le_of_ble_eq_true rfl) (by exact nol rfl) ?_
    rintro r mm' o' ⟨rfl, rfl, rfl⟩
    exact pB _ (MV_alm hM _ _ _) (pif_f q).symm
  · rw [wr_msn] at q
    refine Wx.callV (x := iX11_site) (y := iX11_close) (k := 40) (avs := [_, _]) (rest := []) hC hN tkX11_site rfl rfl kX11_close rfl (M_close _ _ _ _ hM.1 hM.2.1 s0 s1) ⟨rfl, rfl⟩ rfl (Nat.le_of_ble_eq_true rfl) (by exact nol rfl) ?_
    rintro r mm' o' ⟨rfl, rfl, rfl⟩
    refine wpx hC tkX11_site hF [] 200 ?_
    exact ⟨s2, s2, rfl, pif_t q, rfl⟩
noncomputable def noA (q : Int) (m : Mm) : Mm := fori (fun i m => st m 87 0 (4 * q + i) (wr (rd m 76 0 i))) 4 0 m
def noB1 (q i : Int) (m : Mm) : Mm := st m 88 0 (24 * q + i) (wr (rd m 72 0 i))
def noB2 (q i : Int) (m : Mm) : Mm := st m 89 0 (24 * q + i) (wr (rd m 73 0 i))
noncomputable def noB (q : Int) (m : Mm) : Mm := fori (fun i m => noB2 q i (noB1 q i m)) 24 0 m
noncomputable def noM (mm : Mm) (q : Int) : Mm := noB q (noA q mm)
set_option maxRecDepth 100000 in
set_option maxHeartbeats 400000 in
theorem M_note (q9 : Int) (mm : Mm) (o : Int64) (q0 : 0 ≤ q9) (q1 : q9 < 30) : MetX iX11_note [xr 40 0, xi q9] mm o (rtv (noM mm q9) o) := by
  refine MetX.of 0 (by decide +kernel) rfl (Nat.le_of_ble_eq_true rfl) ⟨by decide, by decide⟩ ?_
  intro p l e s m args below meth c Q V D ad A hC hN hok hF
  have loopB : ∀ (k : Nat) (i : Int) (m9 : Mm), 0 ≤ i → i + k = 24 → fori (fun i m => noB2 q9 i (noB1 q9 i m)) k i m9 = noM mm q9 → Wx p l e (mrm iX11_note) s m args below meth c 0 0 Q V D ad A 3 31 [(0, xr 40 0), (1, xi q9), (2, xi i)] [] m9 o := by
    intro k
    induction k with
    | zero =>
      intro i m9 i0 hi he
      refine wpx hC tkX11_note hF [31] 200 ?_
      refine ⟨fun q => ⟨rfl, he.symm, rfl⟩, fun q => ?_⟩
      rw [show wr 24 = 24 from rfl, wr_of (by omega) (by omega)] at q; omega
    | succ k ih =>
      intro i m9 i0 hi he
      have i2 : 0 ≤ i ∧ i < 24 := by omega
      have x2 : 0 ≤ 24 * q9 + i ∧ 24 * q9 + i < 720 := by omega
      refine wpx hC tkX11_note hF [31] 200 ?_
      refine ⟨fun q => ?_, fun q => ⟨i2, x2, i2, x2, ih (i + 1) _ (by omega) (by omega) he⟩⟩
      rw [show wr 24 = 24 from rfl, wr_of (by omega) (by omega)] at q; omega
  have loopA : ∀ (k : Nat) (i : Int) (m9 : Mm), 0 ≤ i → i + k = 4 → fori (fun i m => st m 87 0 (4 * q9 + i) (wr (rd m 76 0 i))) k i m9 = noA q9 mm → Wx p l e (mrm iX11_note) s m args below meth c 0 0 Q V D ad A 3 2 [(0, xr 40 0), (1, xi q9), (2, xi i)] [] m9 o := by
    intro k
    induction k with
    | zero =>
      intro i m9 i0 hi he
      refine wpx hC tkX11_note hF [2, 31] 200 ?_
      refine ⟨fun q => loopB 24 0 m9 (by decide) (by decide) (by unfold noM; rw [← he]; rfl), fun q => ?_⟩
      rw [show wr 4 = 4 from rfl, wr_of (by omega) (by omega)] at q; omega
    | succ k ih =>
      intro i m9 i0 hi he
      have i2 : 0 ≤ i ∧ i < 4 := by omega
      have x2 : 0 ≤ 4 * q9 + i ∧ 4 * q9 + i < 120 := by omega
      refine wpx hC tkX11_note hF [2] 200 ?_
      refine ⟨fun q => ?_, fun q => ⟨i2, x2, ih (i + 1) _ (by omega) (by omega) he⟩⟩
      rw [show wr 4 = 4 from rfl, wr_of (by omega) (by omega)] at q; omega
  refine wpx hC tkX11_note hF [2] 200 ?_
  exact loopA 4 0 mm (by decide) (by decide) rfl
