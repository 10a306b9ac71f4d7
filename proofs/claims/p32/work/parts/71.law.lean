/-! ===== the law, I ===== -/
/-- the cells of the law's frame: the script, the object, the numbers -/
def VL (k : Nat) (i : Int) : Prop := (k = 0 ∧ i = 0) ∨ (k < 41 ∧ 0 ≤ i ∧ i < km k)
theorem VL41 (j : Int) : ¬ VL 41 j := by
  rintro (⟨h, -⟩ | ⟨h, -⟩)
  · exact absurd h (by decide)
  · exact absurd h (by decide)
def LC (R : Room) (p : Program) (l : Launch) (s : State) (m : MethodId) (b : Nat) (meth : Method) (c : Code) (D : DD) (ad : Nat → Int → Nat) (N : Nat) (xs : Nat → Int32) : Prop := Cx VL RL code 9 p R s m #[Value.ref b] meth c D ad (fun q => s.heap.size ≤ q) ∧ wNest s ∧ wThr (fun q => s.heap.size ≤ q) s ∧ wNar s ∧ l.stackTraces = false ∧ va_X (ad 0 0) N xs s s.heap ∧ (ad 0 0 < s.heap.size ∧ ¬ s.heap.size ≤ ad 0 0) ∧ N ≤ 5120 ∧ meth.sig.returnType = ret ∧ (∀ k i, VL k i → kt k = 0 → ad k i < s.heap.size)
def L0 (i : Int) (a w : Mm) : Prop := JV a ∧ (rd a 5 0 6 = i ∧ rd a 5 0 7 = i ∧ rd a 5 0 8 = 0) ∧ rd w 40 0 0 = i ∧ rd w 40 0 1 = i ∧ rd w 40 0 2 = 0
theorem tgt_init {a : Mm} {x k : Int} (k0 : 0 ≤ k) (k1 : k < rd a 5 0 6) (h7 : rd a 5 0 7 < 24) : ck (ixC k (rd a 5 0 6)) (ck (ixC (jdiv (lowC (jshr (jand x 255) 7) 6) 5) 3) (ck (ck (rgC (lowC (jand x 255) 361) 0 359) (rgC (lowC (jshr (jand x 255) 3) 120 - 60) (-90) 90)) (ck (rgC (1 + lowC (jshr (jand x 255) 5) 6) 1 6) (ck (rgC (lowC (jshr (jand x 255) 6) 50) 0 90) (ck (rgC (20 + lowC (jshr (jand x 255) 8) 81) 0 100) (ck (rgC (5 + lowC (jshr (jand x 255) 9) 46) 1 50) (ck (rgC (1 + lowC (jshr (jand x 255) 4) 5) 1 10) (stC (bz (rd a 5 0 7 < 24)))))))))) = none := by
  have hx := and_le x 255 (by decide) (by decide)
  have l1 := low_r (jand x 255) (n := 361) (by decide) (by decide)
  have l1' := low_le (v := jand x 255) (n := 361) (by decide) (by decide) hx.1 (by omega)
  have l2 := low_r (jshr (jand x 255) 3) (n := 120) (by decide) (by decide)
  have l3 := low_r (jshr (jand x 255) 5) (n := 6) (by decide) (by decide)
  have l4 := low_r (jshr (jand x 255) 7) (n := 6) (by decide) (by decide)
  have l5 := low_r (jshr (jand x 255) 6) (n := 50) (by decide) (by decide)
  have l6 := low_r (jshr (jand x 255) 8) (n := 81) (by decide) (by decide)
  have l7 := low_r (jshr (jand x 255) 9) (n := 46) (by decide) (by decide)
  have l8 := low_r (jshr (jand x 255) 4) (n := 5) (by decide) (by decide)
  have ed : jdiv (lowC (jshr (jand x 255) 7) 6) 5 = lowC (jshr (jand x 255) 7) 6 / 5 := jdiv_of l4.1 (by omega) (by decide) (by decide)
  rw [ed]
  exact ck_n (ix_n k0 k1) (ck_n (ix_n (by omega) (by omega)) (ck_n (ck_n (rg_n l1.1 (by omega)) (rg_n (by omega) (by omega))) (ck_n (rg_n (by omega) (by omega)) (ck_n (rg_n l5.1 (by omega)) (ck_n (rg_n (by omega) (by omega)) (ck_n (rg_n (by omega) (by omega)) (ck_n (rg_n (by omega) (by omega)) (st_n (by rw [bz_t h7]; decide)))))))))
theorem rm12 {R : Room} {y : MI} (h : R = room_1) (d : (Nat.ble (y.2.2.2.2.2.1 + 1) room_1.frames && Nat.ble (12 + (y.2.2.1 + 11) + y.2.2.2.2.2.2) room_1.locals) = true) : y.2.2.2.2.2.1 + 1 ≤ R.frames ∧ 12 + (y.2.2.1 + 11) + y.2.2.2.2.2.2 ≤ R.locals := by
  subst h
  obtain ⟨h1, h2⟩ := Bool.and_eq_true _ _ ▸ d
  exact ⟨Nat.le_of_ble_eq_true h1, Nat.le_of_ble_eq_true h2⟩
theorem rm8 {R : Room} {y : MI} (h : R = room_1) (d : (Nat.ble (y.2.2.2.2.2.1 + 1) room_1.frames && Nat.ble (12 + (y.2.2.1 + 11) + y.2.2.2.2.2.2) room_1.locals) = true) : y.2.2.2.2.2.1 + 1 ≤ R.frames ∧ 8 + (y.2.2.1 + 11) + y.2.2.2.2.2.2 ≤ R.locals := by
  have := rm12 h d
  exact ⟨this.1, by omega⟩
theorem wr_nat {i : Nat} (h : i < 1000) : wr (i : Int) = i := wr_of (by omega) (by omega)
section CTX
variable {p : Program} {l : Launch} {e : Env} {s : State} {m : MethodId} {below : List Frame} {meth : Method} {c : Code} {D : DD} {ad : Nat → Int → Nat} {N : Nat} {xs : Nat → Int32} {b : Nat} {R : Room}
theorem law_F (hRR : R = room_1) (hL : LC R p l s m b meth c D ad N xs) {cells slots : Nat} (hRc : cells ≤ R.cells ∧ slots ≤ R.slots) (r : Option AV) (mm : Mm) (o : Int64) (hr : r = some (xi 1)) : rOK p l e R s m #[Value.ref b] below meth c cells slots (lw_Z below #[Value.ref b] s) VL D ad (fun q => s.heap.size ≤ q) code 1 r mm o := by
  subst hr
  subst hRR
  intro H locs pc ls hW hS hv
  refine ⟨fun h _ _ => absurd h (by decide), fun z hz hr9 hd => ?_, fun q h _ _ => absurd h (by decide)⟩
  cases hr9
  exact va_forget (fun q hq => hS.2.2 q hq) (w_widen hRc.1 hRc.2 (lw_ret hL.1.1 hL.1.2.1 hL.2.2.2.2.2.2.2.2.1 hL.1.2.2.2.2.2.2.2.2.2.2.1 hd))
set_option maxRecDepth 100000 in
set_option maxHeartbeats 3200000 in
theorem law_1 {c0 s0 : Nat} (hRR : R = room_1) (hL : LC R p l s m b meth c D ad N xs) (hc : c0 + 63 ≤ R.cells ∧ s0 + 378 ≤ R.slots) (kk : ∀ (a w : Mm) (o : Int64), LVR 3 a w → Wx p l e R s m #[Value.ref b] below meth c (c0 + 63) (s0 + 378) (lw_Z below #[Value.ref b] s) VL D ad (fun q => s.heap.size ≤ q) 9 128 [(0, xr 0 0), (1, xr 1 0), (2, xr 40 0)] [] (mix a w) o) :
    ∀ (n i : Nat) (a w : Mm) (o : Int64), i + n = 3 → L0 i a w → Wx p l e R s m #[Value.ref b] below meth c (c0 + 21 * i) (s0 + 126 * i) (lw_Z below #[Value.ref b] s) VL D ad (fun q => s.heap.size ≤ q) 9 15 [(0, xr 0 0), (1, xr 1 0), (2, xr 40 0), (3, xi i)] [] (mix a w) o := by
  obtain ⟨hC, hN, hT, hR, hst, hX, hb, hN9, hret, hb0⟩ := hL
  intro n
  induction n with
  | zero =>
    intro i a w o hi h0
    obtain rfl : i = 3 := by omega
    obtain ⟨hJ, ⟨h6, h7, h8⟩, n0, n1, n2⟩ := h0
    refine wpk hC ⟨by show (_ : Nat) ≤ R.cells; omega, by show (_ : Nat) ≤ R.slots; omega⟩ tkL_law [128] 200 ?_
    refine ⟨fun _ => Wx.widen (by omega) (by omega) (Wx.pick [0, 1, 2] rfl (kk a w o ⟨hJ, ⟨by rw [n0, h6], by rw [n1, h7], by rw [n2, h8]⟩, by omega, by omega, by omega⟩)), fun q => ?_⟩
    exact absurd (show wr 3 ≤ wr ((3 : Nat) : Int) by decide) q
  | succ n ih =>
    intro i a w o hi h0
    obtain ⟨hJ, ⟨h6, h7, h8⟩, n0, n1, n2⟩ := h0
    have hI := hJ.1.1.1
    have i0 : (0 : Int) ≤ (i : Int) := by omega
    have i3 : (i : Int) < 3 := by omega
    refine wpk hC ⟨by show (_ : Nat) ≤ R.cells; omega, by show (_ : Nat) ≤ R.slots; omega⟩ tkL_law [128] 200 ?_
    refine ⟨fun q => ?_, fun _ => ?_⟩
    · rw [wr_nat (by omega), show wr 3 = 3 from rfl] at q
      omega
    refine Wx.cell hC hN hX hb (Or.inl ⟨rfl, rfl⟩) hN9 tkL_law rfl rfl rfl (rm8 hRR rfl) i0 (by omega) (Nat.le_of_ble_eq_true rfl) ⟨by omega, by omega⟩ ?_
    generalize cellZ N xs i = x
    have l1 := low_r x (n := 4) (by decide) (by decide)
    have l2 := low_r (jshr x 2) (n := 10) (by decide) (by decide)
    have l3 := low_r (jshr x 5) (n := 90) (by decide) (by decide)
    have l4 := low_r (jshr x 7) (n := 10) (by decide) (by decide)
    refine wpk hC ⟨by show (_ : Nat) ≤ R.cells; omega, by show (_ : Nat) ≤ R.slots; omega⟩ tkL_law [] 200 ?_
    refine ⟨by decide, ?_⟩
    refine Wx.sT (y := iL_low) (k := 0) (avs := [_, _]) (rest := [_, _, _, _]) hC hN hT hst tkL_law rfl rfl rfl kL_low (rm12 hRR rfl) (M_low _ _ _ _ (by decide)) (fun _ _ _ h => h) rfl (Nat.le_of_ble_eq_true rfl) rfl rfl ⟨by show (_ : Nat) ≤ R.cells; omega, by show (_ : Nat) ≤ R.slots; omega⟩ ?_
    rintro r mm' o' ⟨rfl, rfl, rfl⟩
    refine wpk hC ⟨by show (_ : Nat) ≤ R.cells; omega, by show (_ : Nat) ≤ R.slots; omega⟩ tkL_law [] 200 ?_
    refine Wx.sT (y := iL_low) (k := 0) (avs := [_, _]) (rest := [_, _, _, _, _]) hC hN hT hst tkL_law rfl rfl rfl kL_low (rm12 hRR rfl) (M_low _ _ _ _ (by decide)) (fun _ _ _ h => h) rfl (Nat.le_of_ble_eq_true rfl) rfl rfl ⟨by show (_ : Nat) ≤ R.cells; omega, by show (_ : Nat) ≤ R.slots; omega⟩ ?_
    rintro r mm' o' ⟨rfl, rfl, rfl⟩
    refine wpk hC ⟨by show (_ : Nat) ≤ R.cells; omega, by show (_ : Nat) ≤ R.slots; omega⟩ tkL_law [] 200 ?_
    refine Wx.sT (y := iL_low) (k := 0) (avs := [_, _]) (rest := [_, _, _, _, _, _]) hC hN hT hst tkL_law rfl rfl rfl kL_low (rm12 hRR rfl) (M_low _ _ _ _ (by decide)) (fun _ _ _ h => h) rfl (Nat.le_of_ble_eq_true rfl) rfl rfl ⟨by show (_ : Nat) ≤ R.cells; omega, by show (_ : Nat) ≤ R.slots; omega⟩ ?_
    rintro r mm' o' ⟨rfl, rfl, rfl⟩
    refine wpk hC ⟨by show (_ : Nat) ≤ R.cells; omega, by show (_ : Nat) ≤ R.slots; omega⟩ tkL_law [] 200 ?_
    refine Wx.sT (y := iL_low) (k := 0) (avs := [_, _]) (rest := [_, _, _, _, _, _, _]) hC hN hT hst tkL_law rfl rfl rfl kL_low (rm12 hRR rfl) (M_low _ _ _ _ (by decide)) (fun _ _ _ h => h) rfl (Nat.le_of_ble_eq_true rfl) rfl rfl ⟨by show (_ : Nat) ≤ R.cells; omega, by show (_ : Nat) ≤ R.slots; omega⟩ ?_
    rintro r mm' o' ⟨rfl, rfl, rfl⟩
    refine wpk hC ⟨by show (_ : Nat) ≤ R.cells; omega, by show (_ : Nat) ≤ R.slots; omega⟩ tkL_law [] 200 ?_
    refine Wx.cW (y := iL_proposals) (k := 5) (avs := [_, _, _, _]) (rest := [_, _, _]) hC hN hT hR hst tkL_law rfl rfl rfl kL_proposals (rm8 hRR rfl) (W_proposals a o (lowC x 4) (lowC (jshr x 2) 10) (lowC (jshr x 5) 90) (lowC (jshr x 7) 10) (wr_low _ (by decide) (by decide)) (wr_low _ (by decide) (by decide)) (wr_low _ (by decide) (by decide)) (wr_low _ (by decide) (by decide)) hI) rfl (Nat.le_of_ble_eq_true rfl) rfl ⟨by show (_ : Nat) ≤ R.cells; omega, by show (_ : Nat) ≤ R.slots; omega⟩ ?_
    rintro r a' o' ⟨rfl, rfl⟩
    have hchk : ck (ixC (lowC x 4) 4) (ck (rgC (lowC (jshr x 2) 10) 0 9) (ck (rgC (lowC (jshr x 5) 90) 0 100) (ck (rgC (lowC (jshr x 7) 10) 0 30) (stC (bz (rd a 5 0 6 < 8)))))) = none := ck_n (ix_n l1.1 l1.2) (ck_n (rg_n l2.1 (by omega)) (ck_n (rg_n l3.1 (by omega)) (ck_n (rg_n l4.1 (by omega)) (st_n (by rw [bz_t (by omega)]; decide)))))
    rw [cdN_n hchk, pif_t hchk]
    obtain ⟨g1, g2, g3, g4⟩ := JV_prop (r := lowC (jshr x 2) 10) (q := lowC (jshr x 5) 90) hJ l1.1 l1.2 l4.1 (show lowC (jshr x 7) 10 ≤ 30 by omega) (by omega)
    generalize proC a (lowC x 4) (lowC (jshr x 2) 10) (lowC (jshr x 5) 90) (lowC (jshr x 7) 10) = a1 at *
    refine wpk hC ⟨by show (_ : Nat) ≤ R.cells; omega, by show (_ : Nat) ≤ R.slots; omega⟩ tkL_law [80] 200 ?_
    refine ⟨fun q => ?_, fun _ => ⟨by decide, ?_⟩⟩
    · rw [wr_rd, wr_nat (by omega)] at q
      exact absurd h6 q
    rw [rd40, st_mix _ _ (by decide)]
    have v1 : ∀ z, rd (st w 40 0 0 (wr (rd w 40 0 0 + 1))) 40 0 z = if z = 0 then (i : Int) + 1 else rd w 40 0 z := fun z => by
      rw [rd_w _ _ _ _ (by omega), n0]
    generalize st w 40 0 0 (wr (rd w 40 0 0 + 1)) = u1 at *
    refine wpk hC ⟨by show (_ : Nat) ≤ R.cells; omega, by show (_ : Nat) ≤ R.slots; omega⟩ tkL_law [] 200 ?_
    refine ⟨by decide, ?_⟩
    refine Wx.cW (y := iL_targets) (k := 10) (avs := [_, _]) (rest := [_, _, _]) hC hN hT hR hst tkL_law rfl rfl rfl kL_targets (rm8 hRR rfl) (W_targets a1 o' i (jand x 255) (wr_nat (by omega)) g1.1.1.1) rfl (Nat.le_of_ble_eq_true rfl) rfl ⟨by show (_ : Nat) ≤ R.cells; omega, by show (_ : Nat) ≤ R.slots; omega⟩ ?_
    rintro r a' o' ⟨rfl, rfl⟩
    have hchk2 := tgt_init (a := a1) (x := x) (k := i) i0 (by omega) (by omega)
    rw [cdN_n hchk2, pif_t hchk2]
    have m3 := low_r (jshr (jand x 255) 5) (n := 6) (by decide) (by decide)
    have m4 := low_r (jshr (jand x 255) 7) (n := 6) (by decide) (by decide)
    have ed : jdiv (lowC (jshr (jand x 255) 7) 6) 5 = lowC (jshr (jand x 255) 7) 6 / 5 := jdiv_of m4.1 (by omega) (by decide) (by decide)
    obtain ⟨f1, f2, f3, f4⟩ := JV_target (b := lowC (jand x 255) 361) (y := lowC (jshr (jand x 255) 3) 120 - 60) (f := lowC (jshr (jand x 255) 6) 50) (g := 20 + lowC (jshr (jand x 255) 8) 81) (v := 5 + lowC (jshr (jand x 255) 9) 46) (w := 1 + lowC (jshr (jand x 255) 4) 5) g1 (p := i) i0 (by omega) (d := 1 + lowC (jshr (jand x 255) 5) 6) (by omega) (by omega) (i := jdiv (lowC (jshr (jand x 255) 7) 6) 5) (by omega) (by omega) (by omega)
    generalize tgC a1 i (lowC (jand x 255) 361) (lowC (jshr (jand x 255) 3) 120 - 60) (1 + lowC (jshr (jand x 255) 5) 6) (jdiv (lowC (jshr (jand x 255) 7) 6) 5) (lowC (jshr (jand x 255) 6) 50) (20 + lowC (jshr (jand x 255) 8) 81) (5 + lowC (jshr (jand x 255) 9) 46) (1 + lowC (jshr (jand x 255) 4) 5) = a2 at *
    refine wpk hC ⟨by show (_ : Nat) ≤ R.cells; omega, by show (_ : Nat) ≤ R.slots; omega⟩ tkL_law [106] 200 ?_
    refine ⟨fun q => ?_, fun _ => ⟨by decide, ?_⟩⟩
    · rw [wr_rd, wr_nat (by omega)] at q
      exact absurd (g3.trans h7) q
    rw [rd40, st_mix _ _ (by decide)]
    have v2 : ∀ z, rd (st u1 40 0 1 (wr (rd u1 40 0 1 + 1))) 40 0 z = if z = 1 then (i : Int) + 1 else rd u1 40 0 z := fun z => by
      have e1 : rd u1 40 0 1 = (i : Int) := by rw [v1, if_neg (by decide)]; exact n1
      rw [rd_w _ _ _ _ (by omega), e1]
    generalize st u1 40 0 1 (wr (rd u1 40 0 1 + 1)) = u2 at *
    refine wpk hC ⟨by show (_ : Nat) ≤ R.cells; omega, by show (_ : Nat) ≤ R.slots; omega⟩ tkL_law [] 200 ?_
    refine Wx.cT (y := iX10_calibrate) (k := 3) (avs := [_, _, _]) (rest := []) hC hN hT hst tkL_law rfl rfl kX10_calibrate (rm8 hRR rfl) rfl (M_calibrate a2 o' i 0 0 (wr_nat (by omega)) rfl rfl) (noT (ck_n (ix_n i0 i3) (ck_n (ix_n (by decide) (by decide)) (ix_n (by decide) (by decide))))) rfl (Nat.le_of_ble_eq_true rfl) rfl ⟨by show (_ : Nat) ≤ R.cells; omega, by show (_ : Nat) ≤ R.slots; omega⟩ ?_
    rintro r a' o' ⟨-, rfl, rfl, rfl⟩
    have d1 := JV_st f1 16 i (0 * 30 + 0) (wr 1 % 2) (by decide)
    have d2 : ∀ j, rd (st a2 16 i (0 * 30 + 0) (wr 1 % 2)) 5 0 j = rd a2 5 0 j := fun j => rd_st_ne (by decide)
    generalize st a2 16 i (0 * 30 + 0) (wr 1 % 2) = a3 at *
    refine wpk hC ⟨by show (_ : Nat) ≤ R.cells; omega, by show (_ : Nat) ≤ R.slots; omega⟩ tkL_law [] 200 ?_
    refine Wx.cT (y := iX10_calibrate) (k := 3) (avs := [_, _, _]) (rest := []) hC hN hT hst tkL_law rfl rfl kX10_calibrate (rm8 hRR rfl) rfl (M_calibrate a3 o' i 0 5 (wr_nat (by omega)) rfl rfl) (noT (ck_n (ix_n i0 i3) (ck_n (ix_n (by decide) (by decide)) (ix_n (by decide) (by decide))))) rfl (Nat.le_of_ble_eq_true rfl) rfl ⟨by show (_ : Nat) ≤ R.cells; omega, by show (_ : Nat) ≤ R.slots; omega⟩ ?_
    rintro r a' o' ⟨-, rfl, rfl, rfl⟩
    have e1 := JV_st d1 16 i (0 * 30 + 5) (wr 1 % 2) (by decide)
    have e2 : ∀ j, rd (st a3 16 i (0 * 30 + 5) (wr 1 % 2)) 5 0 j = rd a3 5 0 j := fun j => rd_st_ne (by decide)
    generalize st a3 16 i (0 * 30 + 5) (wr 1 % 2) = a4 at *
    refine wpk hC ⟨by show (_ : Nat) ≤ R.cells; omega, by show (_ : Nat) ≤ R.slots; omega⟩ tkL_law [15] 200 ?_
    have h9 := ih (i + 1) a4 u2 o' (by omega) ⟨e1, ⟨by rw [e2, d2, f3, g2, h6]; omega, by rw [e2, d2, f2, g3, h7]; omega, by rw [e2, d2, f4, g4, h8]⟩, by rw [v2, if_neg (by decide), v1, if_pos rfl]; omega, by rw [v2, if_pos rfl]; omega, by rw [v2, if_neg (by decide), v1, if_neg (by decide), n2]⟩
    have h8 : Wx p l e R s m #[Value.ref b] below meth c (c0 + 21 * i + 0 + 0 + 0 + 0 + 5 + 10 + 3 + 3) (s0 + 126 * i + 6 * 0 + 6 * 0 + 6 * 0 + 6 * 0 + 6 * 5 + 6 * 10 + 6 * 3 + 6 * 3) (lw_Z below #[Value.ref b] s) VL D ad (fun q => s.heap.size ≤ q) 9 15 [(0, xr 0 0), (1, xr 1 0), (2, xr 40 0), (3, xi ((i : Int) + 1))] [] (mix a4 u2) o' :=
      Wx.widen (k := c0 + 21 * (i + 1)) (n := s0 + 126 * (i + 1)) (by omega) (by omega) h9
    exact Wx.pick [0, 1, 2, 3] rfl h8
end CTX
