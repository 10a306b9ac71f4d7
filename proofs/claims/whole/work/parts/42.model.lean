/-! ===== the model, XIII: a visit is done ===== -/
noncomputable def dA (mm : Mm) (s n w : Int) : Int := n - mnwC mm s (rd mm 58 0 w) n
noncomputable def dR (mm : Mm) (s n w : Int) : Int := 100 - rd mm 82 0 s - 5 * dA mm s n w
noncomputable def dQ (mm : Mm) (s n w : Int) : Int := pif (0 ≤ wr (dR mm s n w)) (dR mm s n w) 0
def dG (mm : Mm) (s n w : Int) : Prop := 23 < w ∨ rd mm 51 0 (rd mm 54 0 w) ≤ wr (dQ mm s n w)
noncomputable def d1 (mm : Mm) (w : Int) : Mm := st mm 76 0 (grpM mm w) (wr (rd mm 76 0 (grpM mm w) + rd mm 57 0 w))
def d2 (m : Mm) (f : Int) : Mm := st m 40 0 51 (wr (rd m 40 0 51 + f))
noncomputable def d3 (m : Mm) (w n : Int) : Mm := st m 73 0 w (wr (jor (rd m 73 0 w) (pif (0 ≤ rd m 63 0 w ∧ ¬ trnC m w n = -1) (jshl 1 (trnC m w n)) 0)))
def d4 (m : Mm) (w : Int) : Mm := st m 72 0 w (wr (rd m 72 0 w + 1))
def d5 (m : Mm) (w n : Int) : Mm := st m 74 0 w (wr (jor (rd m 74 0 w) (jshl 1 n)))
noncomputable def d6 (m : Mm) (w n f : Int) : Mm := pif (23 < w) (st m 75 0 (w - 24) (wr n)) (pif (f = 0) m (d5 (d4 (d3 m w n) w) w n))
def d7 (m : Mm) (s n u w q f a : Int) : Mm := st (st (st (st (st (st (st m 93 0 (rd m 40 0 58) (wr w)) 94 0 (rd m 40 0 58) (wr s)) 95 0 (rd m 40 0 58) (wr (24 * n + u))) 96 0 (rd m 40 0 58) (wr q)) 97 0 (rd m 40 0 58) (wr f)) 98 0 (rd m 40 0 58) (wr (n - a))) 40 0 58 (wr (rd m 40 0 58 + 1))
noncomputable def d8 (m : Mm) (s n u w q f a : Int) : Mm := pif (rd m 40 0 50 = 0 ∧ rd m 40 0 58 < 100) (d7 m s n u w q f a) m
noncomputable def donF (mm : Mm) (s n u w : Int) : Mm := d8 (d6 (d2 (d1 mm w) (bz (dG mm s n w))) w n (bz (dG mm s n w))) s n u w (dQ mm s n w) (bz (dG mm s n w)) (dA mm s n w)
noncomputable def donC (mm : Mm) (s n u : Int) : Mm := st (donF mm s n u (rd mm 80 0 s)) 80 0 s (wr (-1))
set_option maxRecDepth 100000 in
set_option maxHeartbeats 400000 in
theorem M_done (s9 n u : Int) (mm : Mm) (o : Int64) (hI : IM mm) (hD : 0 ≤ rd mm 40 0 58) (s0 : 0 ≤ s9) (s1 : s9 < 3) (n0 : 0 ≤ n) (n1 : n < 30) (w0 : 0 ≤ rd mm 80 0 s9) (w1 : rd mm 80 0 s9 < 34) : MetX iX11_done [xr 40 0, xi s9, xi n, xi u] mm o (rtv (donC mm s9 n u) o) := by
  refine MetX.of 0 (by decide +kernel) rfl (Nat.le_of_ble_eq_true rfl) ⟨by decide, by decide⟩ ?_
  intro p l e s m args below meth c Q V D ad A hC hN hok hF
  have s2 : 0 ≤ s9 ∧ s9 < 3 := ⟨s0, s1⟩
  have w2 : 0 ≤ rd mm 80 0 s9 ∧ rd mm 80 0 s9 < 34 := ⟨w0, w1⟩
  obtain ⟨o1, ⟨l0, l1⟩, ⟨i0, i1⟩⟩ := hI.2.2.2.1 _ w0 w1
  have hg := grp_r hI w0 w1
  have tail : ∀ m9 a q f, m9 = donF mm s9 n u (rd mm 80 0 s9) → Wx p l e (mrm iX11_done) s m args below meth c 0 0 Q V D ad A 8 323 [(0, xr 40 0), (1, xi s9), (2, xi n), (3, xi u), (4, xi (rd mm 80 0 s9)), (5, xi a), (6, xi q), (7, xi f)] [] m9 o := by
    intro m9 a q f h9
    refine wpx hC tkX11_done hF [] 200 ?_
    exact ⟨s2, rfl, by rw [h9]; rfl, rfl⟩
  have arch : ∀ (m9 : Mm) (f : Int), (f = 0 ∨ f = 1) → f = bz (dG mm s9 n (rd mm 80 0 s9)) → m9 = d6 (d2 (d1 mm (rd mm 80 0 s9)) f) (rd mm 80 0 s9) n f → 0 ≤ rd m9 40 0 58 → Wx p l e (mrm iX11_done) s m args below meth c 0 0 Q V D ad A 8 218 [(0, xr 40 0), (1, xi s9), (2, xi n), (3, xi u), (4, xi (rd mm 80 0 s9)), (5, xi (dA mm s9 n (rd mm 80 0 s9))), (6, xi (dQ mm s9 n (rd mm 80 0 s9))), (7, xi f)] [] m9 o := by
    intro m9 f hf hfb h9 hD9
    have hno : ¬ (rd m9 40 0 50 = 0 ∧ rd m9 40 0 58 < 100) → m9 = donF mm s9 n u (rd mm 80 0 s9) := fun h => by
      unfold donF d8
      rw [← hfb, ← h9, pif_f h]
    have hyes : (rd m9 40 0 50 = 0 ∧ rd m9 40 0 58 < 100) → d7 m9 s9 n u (rd mm 80 0 s9) (dQ mm s9 n (rd mm 80 0 s9)) f (dA mm s9 n (rd mm 80 0 s9)) = donF mm s9 n u (rd mm 80 0 s9) := fun h => by
      unfold donF d8
      rw [← hfb, ← h9, pif_t h]
    refine wpx hC tkX11_done hF [323, 299] 200 ?_
    refine ⟨fun q => tail m9 _ _ _ (hno (fun h => ?_)), fun q => ⟨fun q2 => tail m9 _ _ _ (hno (fun h => ?_)), fun q2 => ?_⟩⟩
    · rw [wr_rd] at q; exact q h.1
    · rw [wr_rd, show wr 100 = 100 from rfl] at q2; omega
    rw [wr_rd] at q
    rw [wr_rd, show wr 100 = 100 from rfl] at q2
    have d2' : 0 ≤ rd m9 40 0 58 ∧ rd m9 40 0 58 < 100 := by omega
    have hy := hyes ⟨q, d2'.2⟩
    refine ⟨d2', d2', d2', d2', ?_⟩
    rcases hf with rfl | rfl
    · refine ⟨fun _ => ?_, fun h => absurd rfl h⟩
      refine wpx hC tkX11_done hF [323] 200 ?_
      exact ⟨d2', d2', tail _ _ _ _ hy⟩
    · refine ⟨fun h => absurd h (by decide), fun _ => ?_⟩
      refine wpx hC tkX11_done hF [323] 200 ?_
      exact ⟨d2', d2', tail _ _ _ _ hy⟩
  have good : ∀ f, (f = 0 ∨ f = 1) → f = bz (dG mm s9 n (rd mm 80 0 s9)) → Wx p l e (mrm iX11_done) s m args below meth c 0 0 Q V D ad A 8 83 [(0, xr 40 0), (1, xi s9), (2, xi n), (3, xi u), (4, xi (rd mm 80 0 s9)), (5, xi (dA mm s9 n (rd mm 80 0 s9))), (6, xi (dQ mm s9 n (rd mm 80 0 s9)))] [xi f] mm o := by
    intro f hf hfb
    have next : Wx p l e (mrm iX11_done) s m args below meth c 0 0 Q V D ad A 8 125 [(0, xr 40 0), (1, xi s9), (2, xi n), (3, xi u), (4, xi (rd mm 80 0 s9)), (5, xi (dA mm s9 n (rd mm 80 0 s9))), (6, xi (dQ mm s9 n (rd mm 80 0 s9))), (7, xi f)] [] (d2 (d1 mm (rd mm 80 0 s9)) f) o := by
      have e58 : rd (d2 (d1 mm (rd mm 80 0 s9)) f) 40 0 58 = rd mm 40 0 58 := by
        unfold d2 d1
        rw [rd_st, if_neg (by omega), rd_st_ne (by decide)]
      have e62 : rd (d2 (d1 mm (rd mm 80 0 s9)) f) 62 0 (rd mm 80 0 s9) = rd mm 62 0 (rd mm 80 0 s9) := by
        unfold d2 d1
        rw [rd_st_ne (by decide), rd_st_ne (by decide)]
      refine wpx hC tkX11_done hF [218, 192] 200 ?_
      refine ⟨fun q => ⟨fun q2 => ?_, fun q2 => ?_⟩, fun q => ?_⟩
      · rw [show wr 23 = 23 from rfl, wr_rd] at q
        have hz : f = 0 := by rcases hf with h | h; exact h; rw [h] at q2; exact absurd q2 (by decide)
        exact arch _ f hf hfb (by unfold d6; rw [pif_f (by omega), pif_t hz]) (by rw [e58]; exact hD)
      · rw [show wr 23 = 23 from rfl, wr_rd] at q
        have hz : ¬ f = 0 := fun h => q2 (by rw [h]; rfl)
        have w3 : 0 ≤ rd mm 80 0 s9 ∧ rd mm 80 0 s9 < 24 := by omega
        have hz0 : 0 ≤ rd (d2 (d1 mm (rd mm 80 0 s9)) f) 62 0 (rd mm 80 0 s9) := by rw [e62]; exact hI.2.2.2.2.2.2 _ w3.1 w3.2
        have htr := trn_r (d2 (d1 mm (rd mm 80 0 s9)) f) (rd mm 80 0 s9) n hz0
        have hth := rd_hi (d2 (d1 mm (rd mm 80 0 s9)) f) 62 0 (rd mm 80 0 s9)
        have go : ∀ z, z = pif (0 ≤ rd (d2 (d1 mm (rd mm 80 0 s9)) f) 63 0 (rd mm 80 0 s9) ∧ ¬ trnC (d2 (d1 mm (rd mm 80 0 s9)) f) (rd mm 80 0 s9) n = -1) (jshl 1 (trnC (d2 (d1 mm (rd mm 80 0 s9)) f) (rd mm 80 0 s9) n)) 0 → Wx p l e (mrm iX11_done) s m args below meth c 0 0 Q V D ad A 8 192 [(0, xr 40 0), (1, xi s9), (2, xi n), (3, xi u), (4, xi (rd mm 80 0 s9)), (5, xi (dA mm s9 n (rd mm 80 0 s9))), (6, xi (dQ mm s9 n (rd mm 80 0 s9))), (7, xi f)] [xi z, xi (rd (d2 (d1 mm (rd mm 80 0 s9)) f) 73 0 (rd mm 80 0 s9)), xi (rd mm 80 0 s9), xr 73 0] (d2 (d1 mm (rd mm 80 0 s9)) f) o := by
          rintro z rfl
          refine wpx hC tkX11_done hF [218] 200 ?_
          refine ⟨w3, w3, w3, w3, w3, arch (d5 (d4 (d3 (d2 (d1 mm (rd mm 80 0 s9)) f) (rd mm 80 0 s9) n) (rd mm 80 0 s9)) (rd mm 80 0 s9) n) f hf hfb (by unfold d6; rw [pif_f (by omega), pif_f hz]) ?_⟩
          unfold d5 d4 d3
          rw [rd_st_ne (by decide), rd_st_ne (by decide), rd_st_ne (by decide), e58]; exact hD
        refine ⟨w3, w3, fun q3 => go 0 (pif_f (fun h => ?_)).symm, fun q3 => ?_⟩
        · rw [wr_rd] at q3; omega
        rw [wr_rd] at q3
        refine Wx.callV (x := iX11_done) (y := iX11_turn) (k := 40) (avs := [_, _]) (rest := [_, _, _]) hC hN tkX11_done rfl rfl kX11_turn rfl (M_turn _ _ _ _ w3.1 w3.2 hz0) ⟨rfl, rfl⟩ rfl (Nat.le_of_ble_eq_true rfl) (by exact nol rfl) ?_
        rintro r mm' o' ⟨rfl, rfl, rfl⟩
        refine wpx hC tkX11_done hF [192] 200 ?_
        refine ⟨fun q4 => go 0 (pif_f (fun h => ?_)).symm, fun q4 => ?_⟩
        · rw [wr_of (by omega) (by omega)] at q4; omega
        rw [wr_of (by omega) (by omega)] at q4
        refine Wx.callV (x := iX11_done) (y := iX11_turn) (k := 40) (avs := [_, _]) (rest := [_, _, _, _]) hC hN tkX11_done rfl rfl kX11_turn rfl (M_turn _ _ _ _ w3.1 w3.2 hz0) ⟨rfl, rfl⟩ rfl (Nat.le_of_ble_eq_true rfl) (by exact nol rfl) ?_
        rintro r mm' o' ⟨rfl, rfl, rfl⟩
        refine wpx hC tkX11_done hF [192] 200 ?_
        exact go _ (pif_t ⟨by omega, by omega⟩).symm
      · rw [show wr 23 = 23 from rfl, wr_rd] at q
        refine ⟨⟨by omega, by show rd mm 80 0 s9 - 24 < (10 : Int); omega⟩, arch _ f hf hfb (by unfold d6; rw [pif_t (by omega)]) ?_⟩
        rw [rd_st_ne (by decide), e58]; exact hD
    refine wpx hC tkX11_done hF [121] 200 ?_
    refine Wx.callV (x := iX11_done) (y := iX11_groupOf) (k := 40) (avs := [_]) (rest := [_]) hC hN tkX11_done rfl rfl kX11_groupOf rfl (M_groupOf _ _ _ hI w0 w1) ⟨rfl, rfl⟩ rfl (Nat.le_of_ble_eq_true rfl) (by exact nol rfl) ?_
    rintro r mm' o' ⟨rfl, rfl, rfl⟩
    refine wpx hC tkX11_done hF [121] 200 ?_
    refine ⟨hg, w2, hg, ?_⟩
    rcases hf with rfl | rfl
    · refine ⟨fun _ => ?_, fun h => absurd rfl h⟩
      refine wpx hC tkX11_done hF [125] 200 ?_
      exact next
    · refine ⟨fun h => absurd h (by decide), fun _ => ?_⟩
      refine wpx hC tkX11_done hF [125] 200 ?_
      exact next
  have qual : ∀ z, z = dQ mm s9 n (rd mm 80 0 s9) → ∀ x6, Wx p l e (mrm iX11_done) s m args below meth c 0 0 Q V D ad A 8 52 [(0, xr 40 0), (1, xi s9), (2, xi n), (3, xi u), (4, xi (rd mm 80 0 s9)), (5, xi (dA mm s9 n (rd mm 80 0 s9))), (6, xi x6)] [xi z] mm o := by
    rintro z rfl x6
    refine wpx hC tkX11_done hF [83] 200 ?_
    refine ⟨fun q => good 1 (Or.inr rfl) (bz_t (Or.inl ?_)).symm, fun q => ⟨w2, o1, fun q2 => good 0 (Or.inl rfl) (bz_f (fun h => ?_)).symm, fun q2 => good 1 (Or.inr rfl) (bz_t (Or.inr ?_)).symm⟩⟩
    · rw [show wr 23 = 23 from rfl, wr_rd] at q; exact q
    · rw [show wr 23 = 23 from rfl, wr_rd] at q
      rw [wr_rd] at q2
      rcases h with h | h <;> omega
    · rw [wr_rd] at q2; omega
  refine wpx hC tkX11_done hF [52] 200 ?_
  refine ⟨s2, w2, ?_⟩
  refine Wx.callV (x := iX11_done) (y := iX11_newest) (k := 40) (avs := [_, _, _]) (rest := [_]) hC hN tkX11_done rfl rfl kX11_newest rfl (M_newest _ _ _ _ _ s0 s1 i0 i1 n0 n1) ⟨rfl, rfl⟩ rfl (Nat.le_of_ble_eq_true rfl) (by exact nol rfl) ?_
  rintro r mm' o' ⟨rfl, rfl, rfl⟩
  refine wpx hC tkX11_done hF [52] 200 ?_
  refine ⟨s2, fun q => qual _ (pif_t q).symm _, fun q => qual _ (pif_f q).symm _⟩
