/-! ===== the model, VII: wishes, chances ===== -/
/-- the last value that a walk downwards from k - 1 takes -/
noncomputable def dnL (P : Int → Prop) : Nat → Int → Int
  | 0, r => r
  | k + 1, r => dnL P k (pif (P (k : Int)) (k : Int) r)
theorem dnL_r (P : Int → Prop) : ∀ (k : Nat) (r : Int), dnL P k r = r ∨ (0 ≤ dnL P k r ∧ dnL P k r < k)
  | 0, r => Or.inl rfl
  | k + 1, r => by
    unfold dnL
    have h := dnL_r P k (pif (P (k : Int)) (k : Int) r)
    rcases h with h | h
    · rw [h]
      by_cases q : P (k : Int)
      · rw [pif_t q]; omega
      · rw [pif_f q]; omega
    · omega
def trnP (mm : Mm) (a n k : Int) : Prop := wr (jabs (n - rd mm 63 0 a - k * rd mm 64 0 a)) ≤ rd mm 65 0 a ∧ jand (jshr (rd mm 73 0 a) k) 1 = 0
noncomputable def trnC (mm : Mm) (a n : Int) : Int := dnL (trnP mm a n) (rd mm 62 0 a).toNat (-1)
set_option maxRecDepth 100000 in
set_option maxHeartbeats 400000 in
theorem M_turn (a n : Int) (mm : Mm) (o : Int64) (a0 : 0 ≤ a) (a1 : a < 24) (z0 : 0 ≤ rd mm 62 0 a) : MetX iX11_turn [xr 40 0, xi a, xi n] mm o (rto (xi (trnC mm a n)) mm o) := by
  refine MetX.of 1 (by decide +kernel) rfl (Nat.le_of_ble_eq_true rfl) ⟨by decide, by decide⟩ ?_
  intro p l e s m args below meth c Q V D ad A hC hN hok hF
  have hnl := rd_lo mm 62 0 a
  have hnh := rd_hi mm 62 0 a
  have a2 : 0 ≤ a ∧ a < 24 := ⟨a0, a1⟩
  have done : ∀ k r, k < 0 → -2147483648 ≤ k → r = trnC mm a n → Wx p l e (mrm iX11_turn) s m args below meth c 0 0 Q V D ad A 6 12 [(0, xr 40 0), (1, xi a), (2, xi n), (3, xi r), (4, xi k)] [] mm o := by
    intro k r hk hk2 hr
    refine wpx hC tkX11_turn hF [12] 200 ?_
    refine ⟨fun q => ⟨congrArg (fun z => some (xi z)) hr, rfl, rfl⟩, fun q => ?_⟩
    exact absurd (show wr k < 0 by rw [wr_of (by omega) (by omega)]; exact hk) q
  have loop : ∀ (k : Nat) (r : Int), (k : Int) < 2147483648 → dnL (trnP mm a n) k r = trnC mm a n → Wx p l e (mrm iX11_turn) s m args below meth c 0 0 Q V D ad A 6 12 [(0, xr 40 0), (1, xi a), (2, xi n), (3, xi r), (4, xi ((k : Int) - 1))] [] mm o := by
    intro k
    induction k with
    | zero =>
      intro r hk he
      exact done _ r (by decide) (by decide) he
    | succ k ih =>
      intro r hk he
      have next : ∀ r8 x, r8 = pif (trnP mm a n (k : Int)) (k : Int) r → Wx p l e (mrm iX11_turn) s m args below meth c 0 0 Q V D ad A 6 80 [(0, xr 40 0), (1, xi a), (2, xi n), (3, xi r), (4, xi (((k + 1 : Nat) : Int) - 1)), (5, xi x)] [xi r8] mm o := by
        intro r8 x h8
        refine wpx hC tkX11_turn hF [12] 200 ?_
        have h9 := ih r8 (by omega) (by rw [h8]; exact he)
        rw [show (k : Int) - 1 = ((k + 1 : Nat) : Int) - 1 + (-1) by omega] at h9
        exact Wx.pick [0, 1, 2, 3, 4] rfl h9
      have ek : ((k + 1 : Nat) : Int) - 1 = (k : Int) := by omega
      refine wpx hC tkX11_turn hF [12, 80] 200 ?_
      refine ⟨fun q => ?_, fun _ => ⟨a2, a2, ?_⟩⟩
      · rw [wr_of (by omega) (by omega)] at q; omega
      refine Wx.callV (x := iX11_turn) (y := iX11_size) (k := 40) (avs := [_]) (rest := []) hC hN tkX11_turn rfl rfl kX11_size rfl (M_size _ _ _) ⟨rfl, rfl⟩ rfl (Nat.le_of_ble_eq_true rfl) (by exact nol rfl) ?_
      rintro r mm' o' ⟨rfl, rfl, rfl⟩
      refine wpx hC tkX11_turn hF [12, 80] 200 ?_
      refine ⟨a2, fun q2 => ⟨fun _ => next r 0 (pif_f ?_).symm, fun h => absurd rfl h⟩, fun q2 => ⟨a2, fun q3 => ⟨fun _ => next r 0 (pif_f ?_).symm, fun h => absurd rfl h⟩, fun q3 => ⟨fun h => absurd h (by decide), fun _ => next _ 1 ?_⟩⟩⟩
      · rw [wr_rd, ek] at q2
        exact fun h => by have := h.1; omega
      · rw [wr_and, ek] at q3
        exact fun h => q3 h.2
      · rw [wr_rd, ek] at q2
        rw [wr_and, ek] at q3
        exact ek.trans (pif_t ⟨by omega, q3⟩).symm
  refine wpx hC tkX11_turn hF [12] 200 ?_
  refine ⟨a2, ?_⟩
  by_cases hp : 0 < rd mm 62 0 a
  · have h := loop (rd mm 62 0 a).toNat (-1) (by omega) rfl
    rw [show (((rd mm 62 0 a).toNat : Nat) : Int) - 1 = rd mm 62 0 a - 1 by omega] at h
    exact h
  · refine done _ _ (by omega) (by omega) ?_
    unfold trnC
    rw [show (rd mm 62 0 a).toNat = 0 by omega]; rfl
theorem trn_r (mm : Mm) (a n : Int) (z0 : 0 ≤ rd mm 62 0 a) : trnC mm a n = -1 ∨ (0 ≤ trnC mm a n ∧ trnC mm a n < rd mm 62 0 a) := by
  have h := dnL_r (trnP mm a n) (rd mm 62 0 a).toNat (-1)
  change trnC mm a n = -1 ∨ (0 ≤ trnC mm a n ∧ trnC mm a n < _) at h
  omega
def mwnP (mm : Mm) (a n : Int) : Prop := (0 ≤ rd mm 63 0 a ∧ ¬ trnC mm a n = -1) ∨ (rd mm 63 0 a < 0 ∧ rd mm 72 0 a < rd mm 62 0 a ∧ jand (jshr (rd mm 74 0 a) n) 1 = 0)
set_option maxRecDepth 100000 in
set_option maxHeartbeats 400000 in
theorem M_wanting (a n : Int) (mm : Mm) (o : Int64) (a0 : 0 ≤ a) (a1 : a < 24) (z0 : 0 ≤ rd mm 62 0 a) : MetX iX11_wanting [xr 40 0, xi a, xi n] mm o (rto (xi (bz (mwnP mm a n))) mm o) := by
  refine MetX.of 2 (by decide +kernel) rfl (Nat.le_of_ble_eq_true rfl) ⟨by decide, by decide⟩ ?_
  intro p l e s m args below meth c Q V D ad A hC hN hok hF
  have hnh := rd_hi mm 62 0 a
  have a2 : 0 ≤ a ∧ a < 24 := ⟨a0, a1⟩
  have ht := trn_r mm a n z0
  refine wpx hC tkX11_wanting hF [] 200 ?_
  refine ⟨a2, fun q => ⟨a2, a2, fun q2 => ⟨Or.inl rfl, congrArg (fun z => some (xi z)) (bz_f ?_).symm, rfl, rfl⟩, fun q2 => ⟨a2, fun q3 => ⟨Or.inl rfl, congrArg (fun z => some (xi z)) (bz_f ?_).symm, rfl, rfl⟩, fun q3 => ⟨Or.inr rfl, congrArg (fun z => some (xi z)) (bz_t ?_).symm, rfl, rfl⟩⟩⟩, fun q => ?_⟩
  · rw [wr_rd] at q; rw [wr_rd, wr_rd] at q2
    unfold mwnP; omega
  · rw [wr_rd] at q; rw [wr_and] at q3
    unfold mwnP
    rintro (h | h)
    · omega
    · exact q3 h.2.2
  · rw [wr_rd] at q; rw [wr_rd, wr_rd] at q2; rw [wr_and] at q3
    exact Or.inr ⟨q, by omega, q3⟩
  rw [wr_rd] at q
  refine Wx.callV (x := iX11_wanting) (y := iX11_turn) (k := 40) (avs := [_, _]) (rest := []) hC hN tkX11_wanting rfl rfl kX11_turn rfl (M_turn _ _ _ _ a0 a1 z0) ⟨rfl, rfl⟩ rfl (Nat.le_of_ble_eq_true rfl) (by exact nol rfl) ?_
  rintro r mm' o' ⟨rfl, rfl, rfl⟩
  refine wpx hC tkX11_wanting hF [] 200 ?_
  refine ⟨fun q2 => ⟨Or.inl rfl, congrArg (fun z => some (xi z)) (bz_f ?_).symm, rfl, rfl⟩, fun q2 => ⟨Or.inr rfl, congrArg (fun z => some (xi z)) (bz_t ?_).symm, rfl, rfl⟩⟩
  · rw [wr_of (by omega) (by omega)] at q2
    unfold mwnP; omega
  · rw [wr_of (by omega) (by omega)] at q2
    exact Or.inl ⟨by omega, by omega⟩
noncomputable def mwaR (mm : Mm) (a b : Int) : Int := pif (ck (ixC a (rd mm 40 0 25)) (ixC b 30) = none) (bz (mwnP (hold mm (cdX E0 (ck (ixC a (rd mm 40 0 25)) (ixC b 30)))) a b)) 0
set_option maxRecDepth 100000 in
set_option maxHeartbeats 400000 in
theorem M_mwants (a b : Int) (mm : Mm) (o : Int64) (ha : wr a = a) (hb : wr b = b) (k0 : 0 ≤ rd mm 40 0 25) (k1 : rd mm 40 0 25 ≤ 24) (z0 : 0 ≤ a → a < rd mm 40 0 25 → 0 ≤ rd mm 62 0 a) : MetX iX11_wants [xr 40 0, xi a, xi b] mm o (rto (xi (mwaR mm a b)) (hold mm (cdX E0 (ck (ixC a (rd mm 40 0 25)) (ixC b 30)))) o) := by
  refine MetX.of 2 (by decide +kernel) rfl (Nat.le_of_ble_eq_true rfl) ⟨by decide, by decide⟩ ?_
  intro p l e s m args below meth c Q V D ad A hC hN hok hF
  have hj : ∀ z, cdX E0 (ck (ixC a (rd mm 40 0 25)) (ixC b 30)) = z → Wx p l e (mrm iX11_wants) s m args below meth c 0 0 Q V D ad A 3 22 [(0, xr 40 0), (1, xi a), (2, xi b)] [xi z, xr 40 0] mm o := by
    rintro z rfl
    refine Wx.callV (x := iX11_wants) (y := iX11_holds) (k := 40) (avs := [_]) (rest := []) hC hN tkX11_wants rfl rfl kX11_holds rfl (M_holdc _ _ _ _ (by decide)) ⟨rfl, rfl⟩ rfl (Nat.le_of_ble_eq_true rfl) (by exact nol rfl) ?_
    rintro r mm' o' ⟨rfl, rfl, rfl⟩
    refine wpx hC tkX11_wants hF [] 200 ?_
    refine ⟨fun q => ⟨Or.inl rfl, congrArg (fun z => some (xi z)) (pif_f (yb q)).symm, rfl, rfl⟩, fun q => ?_⟩
    have hn := Classical.not_not.mp (nb q)
    obtain ⟨a0, a1⟩ := ix_of (ck_of hn).1
    refine Wx.callV (x := iX11_wants) (y := iX11_wanting) (k := 40) (avs := [_, _]) (rest := []) hC hN tkX11_wants rfl rfl kX11_wanting rfl (M_wanting _ _ _ _ a0 (by omega) (by rw [rd_hold _ _ _ _ _ (by omega)]; exact z0 a0 (by omega))) ⟨rfl, rfl⟩ rfl (Nat.le_of_ble_eq_true rfl) (by exact nol rfl) ?_
    rintro r mm' o' ⟨rfl, rfl, rfl⟩
    refine wpx hC tkX11_wants hF [] 200 ?_
    exact ⟨fun q2 => ⟨Or.inl rfl, congrArg (fun z => some (xi z)) ((pif_t hn).trans (bz_f (nb q2))).symm, rfl, rfl⟩, fun q2 => ⟨Or.inr rfl, congrArg (fun z => some (xi z)) ((pif_t hn).trans (bz_t (yb q2))).symm, rfl, rfl⟩⟩
  refine wpx hC tkX11_wants hF [22] 200 ?_
  refine Wx.callV (x := iX11_wants) (y := iX11_isTarget) (k := 40) (avs := [_]) (rest := [_]) hC hN tkX11_wants rfl rfl kX11_isTarget rfl (M_isTarget _ _ _ ha k0) ⟨rfl, rfl⟩ rfl (Nat.le_of_ble_eq_true rfl) (by exact nol rfl) ?_
  rintro r mm' o' ⟨rfl, rfl, rfl⟩
  refine wpx hC tkX11_wants hF [22] 200 ?_
  refine ⟨fun q => hj 1 (cdx_ix (fun h => nb q (by omega))), fun q1 => ?_⟩
  have qa : 0 ≤ a ∧ a < rd mm 40 0 25 := by have := yb q1; omega
  refine Wx.callV (x := iX11_wants) (y := iX11_isNight) (k := 40) (avs := [_]) (rest := [_]) hC hN tkX11_wants rfl rfl kX11_isNight rfl (M_isNight _ _ _ hb) ⟨rfl, rfl⟩ rfl (Nat.le_of_ble_eq_true rfl) (by exact nol rfl) ?_
  rintro r mm' o' ⟨rfl, rfl, rfl⟩
  refine wpx hC tkX11_wants hF [22] 200 ?_
  exact ⟨fun q => hj 1 (by rw [ck_ln (ix_t qa)]; exact cdy_ix (fun h => nb q (by omega))), fun q => hj 0 (by rw [ck_ln (ix_t qa)]; exact cdt_ix (by have := yb q; omega))⟩
def allT (P : Int → Prop) : Nat → Int → Prop
  | 0, _ => True
  | k + 1, c => P c ∧ allT P k (c + 1)
def mhiP (mm : Mm) (t a n v : Int) : Prop := rd mm 59 0 t ≤ wr (hgtM mm a n v (rd mm 55 0 t) (rd mm 56 0 t))
def mhiA (mm : Mm) (t a n u d : Int) : Prop := u + d ≤ 24 ∧ allT (mhiP mm t a n) d.toNat u
set_option maxRecDepth 100000 in
set_option maxHeartbeats 400000 in
theorem M_isHigh (t a n u d9 : Int) (mm : Mm) (o : Int64) (t0 : 0 ≤ t) (t1 : t < 34) (a0 : 0 ≤ a) (a1 : a < 3) (u0 : 0 ≤ u) (u1 : u < 24) (d0 : -2147483647 ≤ d9) (d1 : d9 ≤ 24) : MetX iX11_isHigh [xr 40 0, xi t, xi a, xi n, xi u, xi d9] mm o (rto (xi (bz (mhiA mm t a n u d9))) mm o) := by
  refine MetX.of 2 (by decide +kernel) rfl (Nat.le_of_ble_eq_true rfl) ⟨by decide, by decide⟩ ?_
  intro p l e s m args below meth c Q V D ad A hC hN hok hF
  have t2 : 0 ≤ t ∧ t < 34 := ⟨t0, t1⟩
  have no : ∀ v, ¬ mhiA mm t a n u d9 → Wx p l e (mrm iX11_isHigh) s m args below meth c 0 0 Q V D ad A 8 21 [(0, xr 40 0), (1, xi t), (2, xi a), (3, xi n), (4, xi u), (5, xi d9), (6, xi 0), (7, xi v)] [] mm o := by
    intro v h
    refine wpx hC tkX11_isHigh hF [21] 200 ?_
    exact ⟨fun _ => ⟨Or.inl rfl, congrArg (fun z => some (xi z)) (bz_f h).symm, rfl, rfl⟩, fun _ => ⟨fun _ => ⟨Or.inl rfl, congrArg (fun z => some (xi z)) (bz_f h).symm, rfl, rfl⟩, fun h => absurd rfl h⟩⟩
  have loop : ∀ (k : Nat) (v : Int), u ≤ v → v + k = u + d9 → (mhiA mm t a n u d9 ↔ allT (mhiP mm t a n) k v) → Wx p l e (mrm iX11_isHigh) s m args below meth c 0 0 Q V D ad A 8 21 [(0, xr 40 0), (1, xi t), (2, xi a), (3, xi n), (4, xi u), (5, xi d9), (6, xi 1), (7, xi v)] [] mm o := by
    intro k
    induction k with
    | zero =>
      intro v v0 hv hi
      refine wpx hC tkX11_isHigh hF [21] 200 ?_
      refine ⟨fun _ => ⟨Or.inr rfl, congrArg (fun z => some (xi z)) (bz_t (hi.mpr trivial)).symm, rfl, rfl⟩, fun q => ?_⟩
      rw [wr_of (by omega) (by omega), wr_of (by omega) (by omega)] at q; omega
    | succ k ih =>
      intro v v0 hv hi
      refine wpx hC tkX11_isHigh hF [21] 200 ?_
      refine ⟨fun q => ?_, fun _ => ⟨fun q => absurd q (by decide), fun _ => ⟨t2, t2, ?_⟩⟩⟩
      · rw [wr_of (by omega) (by omega), wr_of (by omega) (by omega)] at q; omega
      refine Wx.callV (x := iX11_isHigh) (y := iX11_heightOf) (k := 40) (avs := [_, _, _, _, _]) (rest := []) hC hN tkX11_isHigh rfl rfl kX11_heightOf rfl (M_heightOf _ _ _ _ _ _ _ a0 a1) ⟨rfl, rfl⟩ rfl (Nat.le_of_ble_eq_true rfl) (by exact nol rfl) ?_
      rintro r mm' o' ⟨rfl, rfl, rfl⟩
      refine wpx hC tkX11_isHigh hF [21] 200 ?_
      refine ⟨t2, fun q => no (v + 1) (fun h => ?_), fun q => ih (v + 1) (by omega) (by omega) ?_⟩
      · have h2 := (hi.mp h).1
        unfold mhiP at h2
        rw [wr_rd] at q
        omega
      · rw [wr_rd] at q
        have h3 : mhiP mm t a n v := by unfold mhiP; omega
        exact ⟨fun h => (hi.mp h).2, fun h => hi.mpr ⟨h3, h⟩⟩
  have neg : d9 < 0 → Wx p l e (mrm iX11_isHigh) s m args below meth c 0 0 Q V D ad A 8 21 [(0, xr 40 0), (1, xi t), (2, xi a), (3, xi n), (4, xi u), (5, xi d9), (6, xi 1), (7, xi u)] [] mm o := by
    intro hd
    refine wpx hC tkX11_isHigh hF [21] 200 ?_
    refine ⟨fun _ => ⟨Or.inr rfl, congrArg (fun z => some (xi z)) (bz_t ⟨by omega, by rw [show d9.toNat = 0 by omega]; trivial⟩).symm, rfl, rfl⟩, fun q => ?_⟩
    rw [wr_of (by omega) (by omega), wr_of (by omega) (by omega)] at q; omega
  refine wpx hC tkX11_isHigh hF [21] 200 ?_
  refine ⟨fun q => no u (fun h => ?_), fun q => (Int.lt_or_le d9 0).elim neg (fun hd => loop d9.toNat u (Int.le_refl _) (by omega) ⟨fun h => h.2, fun h => ⟨?_, h⟩⟩)⟩
  · have := h.1
    rw [show wr 24 = 24 from rfl, wr_of (by omega) (by omega)] at q; omega
  · rw [show wr 24 = 24 from rfl, wr_of (by omega) (by omega)] at q; omega
