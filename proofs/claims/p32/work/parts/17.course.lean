/-! ===== what the writers leave (2); observe, endNight, runSlot ===== -/
theorem M_finish (x v i : Int) (mm : Mm) (o : Int64) (hI : IA mm) (hv : vOK mm v) (hk : ¬ rd mm 31 v 0 = 0) (i0 : 0 ≤ i) (i1 : i < 3) (w0 : 0 ≤ rd mm 26 x 8) (w1 : rd mm 26 x 8 < 720) (c0 : 0 ≤ rd mm 27 x 1) : MetX iX4_finish [xr 26 x, xr 31 v, xi i] mm o (rtv (finC mm x v i) o) := by
  by_cases h1 : rd mm 31 v 0 = 1
  · obtain ⟨n0, n1, -, -⟩ := hv.1 h1
    exact M_finish1 x v i mm o hI i0 i1 w0 w1 c0 hk h1 n0 n1
  · obtain ⟨h2, n0, n1⟩ := hv.2 hk h1
    exact M_finish2 x v i mm o hI i0 i1 w0 w1 c0 h2 h1 n0 n1
theorem rd_add (mm : Mm) (b t n : Int) (k : Nat) (i j : Int) (h : k ≠ 21 ∧ k ≠ 22 ∧ k ≠ 23) : rd (addC mm b t n) k i j = rd mm k i j := by
  unfold addC ag3 ag2 ag1
  rw [rd_st_ne h.2.1, rd_st_ne h.1]
  by_cases hp : phC mm b t n = -1
  · rw [pif_t hp]
  · rw [pif_f hp, rd_st_ne h.2.2]
/-- the sorts that the end of a visit leaves -/
def finS (k : Nat) : Prop := k ≠ 21 ∧ k ≠ 22 ∧ k ≠ 23 ∧ k ≠ 24 ∧ k ≠ 25 ∧ k ≠ 27 ∧ k ≠ 28
theorem rd_fin (mm : Mm) (x v s : Int) (k : Nat) (i j : Int) (h : finS k) (h31 : ¬ (k = 31 ∧ i = v)) (h26 : ¬ (k = 26 ∧ j = 9)) : rd (finC mm x v s) k i j = rd mm k i j := by
  obtain ⟨h1, h2, h3, h4, h5, h7, h8⟩ := h
  unfold finC fin4
  rw [rd_begin _ _ _ _ _ _ _ h31, rd_st, if_neg (fun q => h26 ⟨q.1, q.2.2⟩)]
  have e2 : rd (fin2 mm (fin1 mm x v s) x v) k i j = rd mm k i j := by
    unfold fin2
    rw [rd_st_ne h5]
    exact rd_keep _ _ _ _ _ _ _ _ _ _ _ h8 h7
  rw [← e2]
  generalize fin2 mm (fin1 mm x v s) x v = m2
  unfold fin3
  by_cases q2 : rd m2 31 v 0 = 2
  · rw [pif_t q2, rd_st_ne h4]
  · rw [pif_f q2]
    by_cases qg : finG mm x v s = 0
    · rw [pif_t qg]
    · rw [pif_f qg, rd_add _ _ _ _ _ _ _ ⟨h1, h2, h3⟩]
theorem rd_fin0 (mm : Mm) (x v s : Int) : rd (finC mm x v s) 31 v 0 = 0 := by
  unfold finC fin4
  rw [rd_begin0]; rfl
def ob1 (mm : Mm) (v : Int) : Mm := st mm 31 v 2 (wr (rd mm 31 v 2 + 1))
def ob2 (mm : Mm) (x v i : Int) : Mm := st mm 31 v 3 (wr (jmax (rd mm 31 v 3) (seenC mm i (rd mm 26 x 8))))
noncomputable def obsvC (mm : Mm) (x v i : Int) : Mm := pif (rd (ob2 (ob1 mm v) x v i) 31 v 2 < aimF (ob2 (ob1 mm v) x v i) v 3) (ob2 (ob1 mm v) x v i) (finC (ob2 (ob1 mm v) x v i) x v i)
theorem rd_ob (mm : Mm) (x v i : Int) (k : Nat) (a j : Int) (h : ¬ (k = 31 ∧ a = v ∧ (j = 2 ∨ j = 3))) : rd (ob2 (ob1 mm v) x v i) k a j = rd mm k a j := by
  unfold ob2 ob1
  rw [rd_st, if_neg (fun q => h ⟨q.1, q.2.1, Or.inr q.2.2⟩), rd_st, if_neg (fun q => h ⟨q.1, q.2.1, Or.inl q.2.2⟩)]
theorem rd_ob2 (mm : Mm) (x v i : Int) : rd (ob2 (ob1 mm v) x v i) 31 v 2 = wr (rd mm 31 v 2 + 1) := by
  unfold ob2 ob1
  simp [rd_st, wr_wr]
theorem aimF_ob (mm : Mm) (x v i j : Int) : aimF (ob2 (ob1 mm v) x v i) v j = aimF mm v j := by
  unfold aimF
  rw [rd_ob _ _ _ _ _ _ _ (by omega), rd_ob _ _ _ _ 31 v 1 (by omega), rd_ob _ _ _ _ _ _ _ (by omega), rd_ob _ _ _ _ _ _ _ (by omega)]
/-- a visit on which it is observed -/
def vPre (mm : Mm) (v : Int) : Prop := (rd mm 31 v 0 = 1 ∧ 0 ≤ rd mm 31 v 1 ∧ rd mm 31 v 1 < 24) ∨ (rd mm 31 v 0 = 2 ∧ 0 ≤ rd mm 31 v 1 ∧ rd mm 31 v 1 < 10)
theorem M_finishP (x v i : Int) (mm : Mm) (o : Int64) (hI : IA mm) (hv : vPre mm v) (i0 : 0 ≤ i) (i1 : i < 3) (w0 : 0 ≤ rd mm 26 x 8) (w1 : rd mm 26 x 8 < 720) (c0 : 0 ≤ rd mm 27 x 1) : MetX iX4_finish [xr 26 x, xr 31 v, xi i] mm o (rtv (finC mm x v i) o) := by
  rcases hv with ⟨h, n0, n1⟩ | ⟨h, n0, n1⟩
  · exact M_finish1 x v i mm o hI i0 i1 w0 w1 c0 (by rw [h]; decide) h n0 n1
  · exact M_finish2 x v i mm o hI i0 i1 w0 w1 c0 h (by rw [h]; decide) n0 n1
set_option maxRecDepth 100000 in
set_option maxHeartbeats 400000 in
theorem M_observe (x v i : Int) (mm : Mm) (o : Int64) (hI : IA mm) (hv : vPre mm v) (i0 : 0 ≤ i) (i1 : i < 3) (w0 : 0 ≤ rd mm 26 x 8) (w1 : rd mm 26 x 8 < 720) (c0 : 0 ≤ rd mm 27 x 1) : MetX iX4_observe [xr 26 x, xr 31 v, xi i] mm o (rtv (obsvC mm x v i) o) := by
  refine MetX.of 0 (by decide +kernel) rfl (Nat.le_of_ble_eq_true rfl) ⟨by decide, by decide⟩ ?_
  intro p l e s m args below meth c Q V D ad A hC hN hok hF
  refine wpx hC tkX4_observe hF [] 200 ?_
  refine ⟨⟨i0, i1⟩, ?_⟩
  have e8 : rd (ob1 mm v) 26 x 8 = rd mm 26 x 8 := rd_st_ne (by decide)
  refine Wx.callV (x := iX4_observe) (y := iX7_seeingAt) (k := 11) (avs := [_]) (rest := [_, _]) hC hN tkX4_observe rfl rfl kX7_seeingAt rfl (M_seeingAt _ _ _ _ (by exact e8.symm ▸ w0) (by exact e8.symm ▸ w1)) ⟨rfl, rfl⟩ rfl (Nat.le_of_ble_eq_true rfl) (by exact nol rfl) ?_
  rintro r mm' o' ⟨rfl, rfl, rfl⟩
  refine wpx hC tkX4_observe hF [] 200 ?_
  have hI2 : IA (ob2 (ob1 mm v) x v i) := IA_of hI (fun k a b hk => rd_ob _ _ _ _ _ _ _ (by omega))
  have k2 : rd (ob2 (ob1 mm v) x v i) 31 v 0 = rd mm 31 v 0 := rd_ob _ _ _ _ _ _ _ (by omega)
  have n2 : rd (ob2 (ob1 mm v) x v i) 31 v 1 = rd mm 31 v 1 := rd_ob _ _ _ _ _ _ _ (by omega)
  have f2 : rd (ob2 (ob1 mm v) x v i) 26 x 8 = rd mm 26 x 8 := rd_ob _ _ _ _ _ _ _ (by omega)
  have g2 : rd (ob2 (ob1 mm v) x v i) 27 x 1 = rd mm 27 x 1 := rd_ob _ _ _ _ _ _ _ (by omega)
  have hv2 : vPre (ob2 (ob1 mm v) x v i) v := by unfold vPre; rw [k2, n2]; exact hv
  have go : ∀ (k : Nat), (k = 18 ∧ rd mm 31 v 0 = 1) ∨ (k = 19 ∧ rd mm 31 v 0 = 2) → aimF (ob2 (ob1 mm v) x v i) v 3 = rd (ob2 (ob1 mm v) x v i) k (rd (ob2 (ob1 mm v) x v i) 31 v 1) 3 := by
    intro k hk
    rcases hk with ⟨rfl, h⟩ | ⟨rfl, h⟩
    · exact pif_t (by rw [k2]; exact h)
    · exact pif_f (by rw [k2, h]; decide)
  rcases hv with ⟨h, n0, n1⟩ | ⟨h, n0, n1⟩
  · refine Wx.callV (x := iX4_observe) (y := iX4_aimOf) (k := 26) (avs := [_]) (rest := [_]) hC hN tkX4_observe rfl rfl kX4_aimOf rfl (M_aimOf1 _ _ (ob2 (ob1 mm v) x v i) _ (by rw [k2]; exact h) (by rw [n2]; exact n0) (by rw [n2]; exact n1)) ⟨rfl, rfl⟩ rfl (Nat.le_of_ble_eq_true rfl) (by exact nol rfl) ?_
    rintro r mm' o' ⟨rfl, rfl, rfl⟩
    refine wpx hC tkX4_observe hF [] 200 ?_
    refine ⟨fun q => ?_, fun q => ?_⟩
    · rw [wr_rd, wr_rd] at q
      exact ⟨rfl, pif_t (by rw [go 18 (Or.inl ⟨rfl, h⟩)]; exact q), rfl⟩
    · rw [wr_rd, wr_rd] at q
      refine Wx.callV (x := iX4_observe) (y := iX4_finish) (k := 26) (avs := [_, _]) (rest := []) hC hN tkX4_observe rfl rfl kX4_finish rfl (M_finishP _ _ _ _ _ hI2 hv2 i0 i1 (by rw [f2]; exact w0) (by rw [f2]; exact w1) (by rw [g2]; exact c0)) ⟨rfl, rfl⟩ rfl (Nat.le_of_ble_eq_true rfl) (by exact nol rfl) ?_
      rintro r mm' o' ⟨rfl, rfl, rfl⟩
      refine wpx hC tkX4_observe hF [] 200 ?_
      exact ⟨rfl, pif_f (by rw [go 18 (Or.inl ⟨rfl, h⟩)]; exact q), rfl⟩
  · refine Wx.callV (x := iX4_observe) (y := iX4_aimOf) (k := 26) (avs := [_]) (rest := [_]) hC hN tkX4_observe rfl rfl kX4_aimOf rfl (M_aimOf2 _ _ (ob2 (ob1 mm v) x v i) _ (by rw [k2, h]; decide) (by rw [n2]; exact n0) (by rw [n2]; exact n1)) ⟨rfl, rfl⟩ rfl (Nat.le_of_ble_eq_true rfl) (by exact nol rfl) ?_
    rintro r mm' o' ⟨rfl, rfl, rfl⟩
    refine wpx hC tkX4_observe hF [] 200 ?_
    refine ⟨fun q => ?_, fun q => ?_⟩
    · rw [wr_rd, wr_rd] at q
      exact ⟨rfl, pif_t (by rw [go 19 (Or.inr ⟨rfl, h⟩)]; exact q), rfl⟩
    · rw [wr_rd, wr_rd] at q
      refine Wx.callV (x := iX4_observe) (y := iX4_finish) (k := 26) (avs := [_, _]) (rest := []) hC hN tkX4_observe rfl rfl kX4_finish rfl (M_finishP _ _ _ _ _ hI2 hv2 i0 i1 (by rw [f2]; exact w0) (by rw [f2]; exact w1) (by rw [g2]; exact c0)) ⟨rfl, rfl⟩ rfl (Nat.le_of_ble_eq_true rfl) (by exact nol rfl) ?_
      rintro r mm' o' ⟨rfl, rfl, rfl⟩
      refine wpx hC tkX4_observe hF [] 200 ?_
      exact ⟨rfl, pif_f (by rw [go 19 (Or.inr ⟨rfl, h⟩)]; exact q), rfl⟩
