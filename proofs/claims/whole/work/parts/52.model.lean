/-! ===== the model, XXIII: replay ===== -/
theorem rd_kS (z : Bool) (k9 : Nat) (a t : Int) (m : Mm) (k : Nat) (i j : Int) (h : k < 72) : rd (kS z k9 a t m) k i j = rd m k i j := by
  unfold kS
  exact rd_st_ne (by omega)
theorem rd_kL (k9 : Nat) (a t : Int) (m : Mm) (k : Nat) (i j : Int) (h : k < 72) (h9 : 72 ≤ k9) : rd (kL k9 a t m) k i j = rd m k i j := by
  unfold kL
  exact rd_st_ne (by omega)
theorem rd_kqM (z : Bool) (m : Mm) (k : Nat) (i j : Int) (h : k < 72) : rd (kqM z m) k i j = rd m k i j := by
  unfold kqM
  refine fori_mk (P := fun m9 => rd m9 k i j = rd m k i j) (fun t m9 h9 => ?_) _ _ _ (fori_mk (P := fun m9 => rd m9 k i j = rd m k i j) (fun t m9 h9 => ?_) _ _ _ (fori_mk (P := fun m9 => rd m9 k i j = rd m k i j) (fun t m9 h9 => ?_) _ _ _ (fori_mk (P := fun m9 => rd m9 k i j = rd m k i j) (fun t m9 h9 => ?_) _ _ _ rfl)))
  · unfold kq4 kq3
    simp only [rd_kL _ _ _ _ k i j h (by decide : 72 ≤ 82), rd_kL _ _ _ _ k i j h (by decide : 72 ≤ 81), rd_kL _ _ _ _ k i j h (by decide : 72 ≤ 80), rd_kL _ _ _ _ k i j h (by decide : 72 ≤ 79), rd_kL _ _ _ _ k i j h (by decide : 72 ≤ 78), rd_kS _ _ _ _ _ k i j h, h9]
  · unfold kqC
    simp only [rd_kL _ _ _ _ k i j h (by decide : 72 ≤ 77), rd_kL _ _ _ _ k i j h (by decide : 72 ≤ 76), rd_kS _ _ _ _ _ k i j h, h9]
  · unfold kqA
    simp only [rd_kL _ _ _ _ k i j h (by decide : 72 ≤ 75), rd_kS _ _ _ _ _ k i j h, h9]
  · unfold kq2 kq1
    simp only [rd_kL _ _ _ _ k i j h (by decide : 72 ≤ 85), rd_kL _ _ _ _ k i j h (by decide : 72 ≤ 84), rd_kL _ _ _ _ k i j h (by decide : 72 ≤ 83), rd_kL _ _ _ _ k i j h (by decide : 72 ≤ 74), rd_kL _ _ _ _ k i j h (by decide : 72 ≤ 73), rd_kL _ _ _ _ k i j h (by decide : 72 ≤ 72), rd_kS _ _ _ _ _ k i j h, h9]
theorem rd_gbM (m : Mm) (n : Int) (k : Nat) (i j : Int) (h : k < 72) : rd (gbM m n) k i j = rd m k i j := by
  unfold gbM
  refine fori_mk (P := fun m9 => rd m9 k i j = rd m k i j) (fun t m9 h9 => ?_) _ _ _ (fori_mk (P := fun m9 => rd m9 k i j = rd m k i j) (fun t m9 h9 => ?_) _ _ _ (fori_mk (P := fun m9 => rd m9 k i j = rd m k i j) (fun t m9 h9 => ?_) _ _ _ (fori_mk (P := fun m9 => rd m9 k i j = rd m k i j) (fun t m9 h9 => ?_) _ _ _ rfl)))
  · unfold gbV; exact (rd_st_ne (by omega)).trans h9
  · unfold gbC; exact (rd_st_ne (by omega)).trans h9
  · unfold gbA; exact (rd_st_ne (by omega)).trans h9
  · unfold gbT gb4 gb3 gb2 gb1
    rw [rd_st_ne (by omega), rd_st_ne (by omega), rd_st_ne (by omega), rd_st_ne (by omega), h9]
theorem VM_gbM (m : Mm) (n : Int) : VM (gbM m n) := by
  intro u u0 u1
  have e : rd (gbM m n) 80 0 u = -1 := by
    unfold gbM
    generalize fori (gbC n) 4 0 (fori (gbA n) 10 0 (fori (gbT n) 24 0 m)) = m9
    show rd (gbV (0 + 1 + 1) (gbV (0 + 1) (gbV 0 m9))) 80 0 u = -1
    unfold gbV
    rw [rd_st]
    by_cases q : u = 0 + 1 + 1
    · rw [if_pos ⟨rfl, rfl, q⟩]; rfl
    · rw [if_neg (fun z => q z.2.2), rd_st]
      by_cases q2 : u = 0 + 1
      · rw [if_pos ⟨rfl, rfl, q2⟩]; rfl
      · rw [if_neg (fun z => q2 z.2.2), rd_st, if_pos ⟨rfl, rfl, by omega⟩]; rfl
  rw [e]; decide
def reS (m : Mm) : Mm := st (st m 40 0 50 1) 40 0 51 (wr 0)
noncomputable def rePre (m : Mm) (a : Int) : Mm := reS (gbM (kqM (Nat.beq 0 1) m) a)
noncomputable def reRun (m : Mm) (a : Int) : Mm := fori (fun t m => slM m a t) 24 0 (rePre m a)
noncomputable def reFin (m : Mm) (a : Int) : Mm := kqM (Nat.beq 1 1) (st (reRun m a) 40 0 50 0)
noncomputable def rplH (w a : Int) : Option String := ck (ixC a 30) (stC (bz (a * 24 < w)))
noncomputable def rplM (mm : Mm) (a : Int) : Mm := md E2 (rplH (rd mm 40 0 45) a) mm (fun m => reFin m a)
noncomputable def rplR (mm : Mm) (a : Int) : Int := pif (rplH (rd mm 40 0 45) a = none) (rd (rplM mm a) 40 0 51) (-1)
theorem MV_rePre {m : Mm} (h : MV m) (a : Int) : MV (rePre m a) := by
  have e : ∀ (k : Nat) (i j : Int), k < 72 → rd (gbM (kqM (Nat.beq 0 1) m) a) k i j = rd m k i j := fun k i j hk => (rd_gbM _ _ _ _ _ hk).trans (rd_kqM _ _ _ _ _ hk)
  have h1 : MV (gbM (kqM (Nat.beq 0 1) m) a) := ⟨IM_of h.1 (fun k i j hk => e k i j (by omega)), VM_gbM _ _, by rw [e _ _ _ (by decide)]; exact h.2.2⟩
  unfold rePre reS
  refine MV_of h1 (fun k i j hk => ?_) (VM_same h1.2.1 (fun i => ?_)) ?_
  · unfold tq at hk
    rw [rd_st, if_neg (by omega), rd_st, if_neg (by omega)]
  · rw [rd_st_ne (by decide), rd_st_ne (by decide)]
  · rw [rd_st, if_neg (by omega), rd_st, if_neg (by omega)]; exact h1.2.2
set_option maxRecDepth 100000 in
set_option maxHeartbeats 400000 in
theorem M_mreplay (a : Int) (mm : Mm) (o : Int64) (ha : wr a = a) (hM : MV mm) : MetX iX11_replay [xr 40 0, xi a] mm o (rto (xi (rplR mm a)) (rplM mm a) o) := by
  refine MetX.of 1 (by decide +kernel) rfl (Nat.le_of_ble_eq_true rfl) ⟨by decide, by decide⟩ ?_
  intro p l e s m args below meth c Q V D ad A hC hN hok hF
  have hj : ∀ z, cdX E2 (rplH (rd mm 40 0 45) a) = z → Wx p l e (mrm iX11_replay) s m args below meth c 0 0 Q V D ad A 3 29 [(0, xr 40 0), (1, xi a)] [xi z, xr 40 0] mm o := by
    rintro z rfl
    refine Wx.callV (x := iX11_replay) (y := iX11_holds) (k := 40) (avs := [_]) (rest := []) hC hN tkX11_replay rfl rfl kX11_holds rfl (M_holdc _ _ _ _ (by decide)) ⟨rfl, rfl⟩ rfl (Nat.le_of_ble_eq_true rfl) (by exact nol rfl) ?_
    rintro r mm' o' ⟨rfl, rfl, rfl⟩
    refine wpx hC tkX11_replay hF [59] 200 ?_
    refine ⟨fun q => ?_, fun q => ⟨congrArg (fun z => some (xi z)) (pif_f (yb q)).symm, md_s (yb q), rfl⟩⟩
    have hn := Classical.not_not.mp (nb q)
    obtain ⟨a0, a1⟩ := ix_of (ck_of hn).1
    have hM0 : MV (hold mm (cdX E2 (rplH (rd mm 40 0 45) a))) := MV_hold hM _
    have eM : rplM mm a = reFin (hold mm (cdX E2 (rplH (rd mm 40 0 45) a))) a := md_n hn
    have eR : rplR mm a = rd (rplM mm a) 40 0 51 := pif_t hn
    generalize hold mm (cdX E2 (rplH (rd mm 40 0 45) a)) = m0 at hM0 eM ⊢
    have loop : ∀ (k : Nat) (t : Int) (m9 : Mm), 0 ≤ t → t + k = 24 → MV m9 → fori (fun t m => slM m a t) k t m9 = reRun m0 a → Wx p l e (mrm iX11_replay) s m args below meth c 0 0 Q V D ad A 3 59 [(0, xr 40 0), (1, xi a), (2, xi t)] [] m9 o := by
      intro k
      induction k with
      | zero =>
        intro t m9 t0 ht h9 he
        refine wpx hC tkX11_replay hF [59] 200 ?_
        refine ⟨fun _ => ⟨Or.inl rfl, ?_⟩, fun q => ?_⟩
        · refine Wx.callV (x := iX11_replay) (y := iX11_keep) (k := 40) (avs := [_]) (rest := []) hC hN tkX11_replay rfl rfl kX11_keep rfl (M_keep1 _ _) ⟨rfl, rfl⟩ rfl (Nat.le_of_ble_eq_true rfl) (by exact nol rfl) ?_
          rintro r mm' o' ⟨rfl, rfl, rfl⟩
          have e9 : m9 = reRun m0 a := he
          refine wpx hC tkX11_replay hF [] 200 ?_
          exact ⟨congrArg (fun z => some (xi z)) (by rw [eR, eM, e9]; rfl), by rw [eM, e9]; rfl, rfl⟩
        · rw [show wr 24 = 24 from rfl, wr_of (by omega) (by omega)] at q; omega
      | succ k ih =>
        intro t m9 t0 ht h9 he
        refine wpx hC tkX11_replay hF [59] 200 ?_
        refine ⟨fun q => ?_, fun _ => ?_⟩
        · rw [show wr 24 = 24 from rfl, wr_of (by omega) (by omega)] at q; omega
        refine Wx.callV (x := iX11_replay) (y := iX11_slot) (k := 40) (avs := [_, _]) (rest := []) hC hN tkX11_replay rfl rfl kX11_slot rfl (M_mslot _ _ _ _ h9 a0 a1 (by omega) (by omega)) ⟨rfl, rfl⟩ rfl (Nat.le_of_ble_eq_true rfl) (by exact nol rfl) ?_
        rintro r mm' o' ⟨rfl, rfl, rfl⟩
        refine wpx hC tkX11_replay hF [59] 200 ?_
        exact ih (t + 1) _ (by omega) (by omega) (MV_slM h9 _ _) he
    refine Wx.callV (x := iX11_replay) (y := iX11_keep) (k := 40) (avs := [_]) (rest := []) hC hN tkX11_replay rfl rfl kX11_keep rfl (M_keep0 _ _) ⟨rfl, rfl⟩ rfl (Nat.le_of_ble_eq_true rfl) (by exact nol rfl) ?_
    rintro r mm' o' ⟨rfl, rfl, rfl⟩
    refine wpx hC tkX11_replay hF [59] 200 ?_
    refine Wx.callV (x := iX11_replay) (y := iX11_goBack) (k := 40) (avs := [_]) (rest := []) hC hN tkX11_replay rfl rfl kX11_goBack rfl (M_goBack _ _ _ a0 a1) ⟨rfl, rfl⟩ rfl (Nat.le_of_ble_eq_true rfl) (by exact nol rfl) ?_
    rintro r mm' o' ⟨rfl, rfl, rfl⟩
    refine wpx hC tkX11_replay hF [59] 200 ?_
    refine ⟨Or.inr rfl, ?_⟩
    exact loop 24 0 (rePre m0 a) (by decide) (by decide) (MV_rePre hM0 a) rfl
  unfold rplH at hj
  refine wpx hC tkX11_replay hF [29] 200 ?_
  refine Wx.callV (x := iX11_replay) (y := iX11_isNight) (k := 40) (avs := [_]) (rest := [_]) hC hN tkX11_replay rfl rfl kX11_isNight rfl (M_isNight _ _ _ ha) ⟨rfl, rfl⟩ rfl (Nat.le_of_ble_eq_true rfl) (by exact nol rfl) ?_
  rintro r mm' o' ⟨rfl, rfl, rfl⟩
  refine wpx hC tkX11_replay hF [29] 200 ?_
  refine ⟨fun q => ?_, fun q => hj 1 (cdx2_ix (fun h => nb q (by omega)))⟩
  have qa : 0 ≤ a ∧ a < 30 := by have := yb q; omega
  refine ⟨fun q2 => hj 0 ?_, fun q2 => hj 2 ?_⟩
  · rw [wr_rd, wr_of (by omega) (by omega)] at q2
    rw [ck_ln (ix_t qa)]; exact cdt_st (by omega)
  · rw [wr_rd, wr_of (by omega) (by omega)] at q2
    rw [ck_ln (ix_t qa)]; exact cdy2_st (by omega)
