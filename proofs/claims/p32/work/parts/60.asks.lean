/-! ===== asks ===== -/
def LA (y u v : Int) : List (Nat × AV) := [(0, xr 1 0), (1, xr 40 0), (2, xi y), (3, xi u), (4, xi v)]
section CTX
variable {p : Program} {l : Launch} {e : Env} {s : State} {m : MethodId} {args : Array Value} {below : List Frame} {meth : Method} {c : Code} {Q : State → Prop} {V : Nat → Int → Prop} {D : DD} {ad : Nat → Int → Nat} {A : Nat → Prop}
set_option maxRecDepth 100000 in
set_option maxHeartbeats 1600000 in
theorem asks_1 {a w : Mm} {y : Int} {o : Int64} (hC : Cx V RL cL_asks 11 p (mrmT iL_asks 9000) s m args meth c D ad A) (hN : wNest s) (hT : wThr A s) (hst : l.stackTraces = false)
    (kk : Wx p l e (mrmT iL_asks 9000) s m args below meth c 8 48 Q V D ad A 11 35 [(0, xr 1 0), (1, xr 40 0), (2, xi y), (3, xi (W1 a 4))] [] (mix a w) o) :
    ∀ (n i : Nat), i + n = 4 → Wx p l e (mrmT iL_asks 9000) s m args below meth c (2 * i) (12 * i) Q V D ad A 11 5 (LA y (W1 a i) i) [] (mix a w) o := by
  intro n
  induction n with
  | zero =>
    intro i hi
    obtain rfl : i = 4 := by omega
    refine wpk hC ⟨by show (_ : Nat) ≤ 9000; omega, by show (_ : Nat) ≤ 6 * 9000; omega⟩ tkL_asks [35] 200 ?_
    refine ⟨fun _ => Wx.pick [0, 1, 2, 3] rfl kk, fun q => ?_⟩
    exact absurd (show wr 4 ≤ wr ((4 : Nat) : Int) by decide) q
  | succ n ih =>
    intro i hi
    have i0 : (0 : Int) ≤ (i : Int) := by omega
    have wi : wr (i : Int) = i := wr_of (by omega) (by omega)
    refine wpk hC ⟨by show (_ : Nat) ≤ 9000; omega, by show (_ : Nat) ≤ 6 * 9000; omega⟩ tkL_asks [35] 200 ?_
    refine ⟨fun q => ?_, fun q => ?_⟩
    · rw [wi, wr_of (by omega) (by omega)] at q
      omega
    refine Wx.cT (y := iX10_slots) (k := 1) (avs := [_, _]) (rest := [_]) hC hN hT hst tkL_asks rfl rfl kX10_slots ⟨by decide, by decide⟩ rfl (M_slots a o i 0 wi rfl) (noT (ix_n i0 (by omega))) rfl (Nat.le_of_ble_eq_true rfl) rfl ⟨by show (_ : Nat) ≤ 9000; omega, by show (_ : Nat) ≤ 6 * 9000; omega⟩ ?_
    rintro r a' o' ⟨-, rfl, rfl, rfl⟩
    refine wpk hC ⟨by show (_ : Nat) ≤ 9000; omega, by show (_ : Nat) ≤ 6 * 9000; omega⟩ tkL_asks [] 200 ?_
    refine Wx.cT (y := iX10_slots) (k := 1) (avs := [_, _]) (rest := [_, _]) hC hN hT hst tkL_asks rfl rfl kX10_slots ⟨by decide, by decide⟩ rfl (M_slots a o i 1 wi rfl) (noT (ix_n i0 (by omega))) rfl (Nat.le_of_ble_eq_true rfl) rfl ⟨by show (_ : Nat) ≤ 9000; omega, by show (_ : Nat) ≤ 6 * 9000; omega⟩ ?_
    rintro r a' o' ⟨-, rfl, rfl, rfl⟩
    refine wpk hC ⟨by show (_ : Nat) ≤ 9000; omega, by show (_ : Nat) ≤ 6 * 9000; omega⟩ tkL_asks [5] 200 ?_
    exact ih (i + 1) (by omega)
set_option maxRecDepth 100000 in
set_option maxHeartbeats 1600000 in
theorem asks_2 {a w : Mm} {y : Int} {o : Int64} (hC : Cx V RL cL_asks 11 p (mrmT iL_asks 9000) s m args meth c D ad A) (hN : wNest s) (hT : wThr A s) (hst : l.stackTraces = false)
    (kk : Wx p l e (mrmT iL_asks 9000) s m args below meth c 20 120 Q V D ad A 11 76 [(0, xr 1 0), (1, xr 40 0), (2, xi y), (3, xi (W1 a 4 + W2 a 3))] [] (mix a w) o) :
    ∀ (n i : Nat), i + n = 3 → Wx p l e (mrmT iL_asks 9000) s m args below meth c (8 + 4 * i) (48 + 24 * i) Q V D ad A 11 38 (LA y (W1 a 4 + W2 a i) i) [] (mix a w) o := by
  intro n
  induction n with
  | zero =>
    intro i hi
    obtain rfl : i = 3 := by omega
    refine wpk hC ⟨by show (_ : Nat) ≤ 9000; omega, by show (_ : Nat) ≤ 6 * 9000; omega⟩ tkL_asks [76] 200 ?_
    refine ⟨fun _ => Wx.pick [0, 1, 2, 3] rfl kk, fun q => ?_⟩
    exact absurd (show wr 3 ≤ wr ((3 : Nat) : Int) by decide) q
  | succ n ih =>
    intro i hi
    have i0 : (0 : Int) ≤ (i : Int) := by omega
    have wi : wr (i : Int) = i := wr_of (by omega) (by omega)
    refine wpk hC ⟨by show (_ : Nat) ≤ 9000; omega, by show (_ : Nat) ≤ 6 * 9000; omega⟩ tkL_asks [76] 200 ?_
    refine ⟨fun q => ?_, fun q => ?_⟩
    · rw [wi, wr_of (by omega) (by omega)] at q
      omega
    refine Wx.cT (y := iX10_lost) (k := 1) (avs := [_, _]) (rest := [_]) hC hN hT hst tkL_asks rfl rfl kX10_lost ⟨by decide, by decide⟩ rfl (M_lost a o i 1 wi rfl) (noT (ix_n i0 (by omega))) rfl (Nat.le_of_ble_eq_true rfl) rfl ⟨by show (_ : Nat) ≤ 9000; omega, by show (_ : Nat) ≤ 6 * 9000; omega⟩ ?_
    rintro r a' o' ⟨-, rfl, rfl, rfl⟩
    refine wpk hC ⟨by show (_ : Nat) ≤ 9000; omega, by show (_ : Nat) ≤ 6 * 9000; omega⟩ tkL_asks [] 200 ?_
    refine Wx.cT (y := iX10_lost) (k := 1) (avs := [_, _]) (rest := [_, _]) hC hN hT hst tkL_asks rfl rfl kX10_lost ⟨by decide, by decide⟩ rfl (M_lost a o i 0 wi rfl) (noT (ix_n i0 (by omega))) rfl (Nat.le_of_ble_eq_true rfl) rfl ⟨by show (_ : Nat) ≤ 9000; omega, by show (_ : Nat) ≤ 6 * 9000; omega⟩ ?_
    rintro r a' o' ⟨-, rfl, rfl, rfl⟩
    refine wpk hC ⟨by show (_ : Nat) ≤ 9000; omega, by show (_ : Nat) ≤ 6 * 9000; omega⟩ tkL_asks [] 200 ?_
    refine Wx.cT (y := iX10_goingOn) (k := 2) (avs := [_, _]) (rest := [_, _]) hC hN hT hst tkL_asks rfl rfl kX10_goingOn ⟨by decide, by decide⟩ rfl (M_goingOn a o i 2 wi rfl) (noT (ck_n (ix_n i0 (by omega)) rfl)) rfl (Nat.le_of_ble_eq_true rfl) rfl ⟨by show (_ : Nat) ≤ 9000; omega, by show (_ : Nat) ≤ 6 * 9000; omega⟩ ?_
    rintro r a' o' ⟨-, rfl, rfl, rfl⟩
    refine wpk hC ⟨by show (_ : Nat) ≤ 9000; omega, by show (_ : Nat) ≤ 6 * 9000; omega⟩ tkL_asks [38] 200 ?_
    have e : W1 a 4 + W2 a (i + 1) = W1 a 4 + W2 a i + (lstC a i 1 + lstC a i 0 + rd a 31 (27 * 0 + (i : Int)) 2) := by
      show W1 a 4 + (W2 a i + (lstC a i 1 + lstC a i 0 + rd a 31 (27 * 0 + (i : Int)) 2)) = _
      omega
    have h9 := ih (i + 1) (by omega)
    rw [e] at h9
    exact h9
set_option maxRecDepth 100000 in
set_option maxHeartbeats 1600000 in
theorem asks_3 {a w : Mm} {y : Int} {o : Int64} (hC : Cx V RL cL_asks 11 p (mrmT iL_asks 9000) s m args meth c D ad A) (hN : wNest s) (hJ : JV a)
    (kk : Wx p l e (mrmT iL_asks 9000) s m args below meth c 20 120 Q V D ad A 11 105 [(0, xr 1 0), (1, xr 40 0), (2, xi y)] [] (mix a w) o) : Wx p l e (mrmT iL_asks 9000) s m args below meth c 20 120 Q V D ad A 11 76 [(0, xr 1 0), (1, xr 40 0), (2, xi y), (3, xi (W1 a 4 + W2 a 3))] [] (mix a w) o := by
  obtain ⟨-, s2, s3, s4⟩ := sum_asks hJ
  have hw := s2 3 (Nat.le_refl _)
  have w0 := hJ.2.2.1
  have w1 := hJ.2.2.2
  have e1 : wr (W1 a 4 + W2 a 3) = W1 a 4 + W2 a 3 := wr_of (by omega) (by omega)
  have e2 : wr (3 * rd a 26 0 8) = 3 * rd a 26 0 8 := wr_of (by omega) (by omega)
  refine wpk hC ⟨by show (_ : Nat) ≤ 9000; omega, by show (_ : Nat) ≤ 6 * 9000; omega⟩ tkL_asks [] 200 ?_
  refine Wx.cX (y := iX10_now) (avs := []) (rest := [_, _]) hC hN tkL_asks rfl rfl kX10_now ⟨by decide, by decide⟩ rfl (M_now a o) rfl (Nat.le_of_ble_eq_true rfl) rfl ⟨by show (_ : Nat) ≤ 9000; omega, by show (_ : Nat) ≤ 6 * 9000; omega⟩ ?_
  rintro r a' o' ⟨rfl, rfl, rfl⟩
  refine wpk hC ⟨by show (_ : Nat) ≤ 9000; omega, by show (_ : Nat) ≤ 6 * 9000; omega⟩ tkL_asks [103, 105] 200 ?_
  refine ⟨fun q => ?_, fun _ => ?_⟩
  · rw [e1, e2] at q; omega
  refine Wx.cX (y := iX10_waiting) (avs := []) (rest := []) hC hN tkL_asks rfl rfl kX10_waiting ⟨by decide, by decide⟩ rfl (M_waiting a o) rfl (Nat.le_of_ble_eq_true rfl) rfl ⟨by show (_ : Nat) ≤ 9000; omega, by show (_ : Nat) ≤ 6 * 9000; omega⟩ ?_
  rintro r a' o' ⟨rfl, rfl, rfl⟩
  refine wpk hC ⟨by show (_ : Nat) ≤ 9000; omega, by show (_ : Nat) ≤ 6 * 9000; omega⟩ tkL_asks [103, 105] 200 ?_
  refine ⟨fun _ => Wx.pick [0, 1, 2] rfl kk, fun q => ?_⟩
  have hwt : waitC a = 0 := by
    have h1 := cntT_nn (fun t => ¬ rd a 31 (27 * 0 + 3 + t) 0 = 0) 24 0 0 (Int.le_refl _)
    have h2 := cntT_le (fun t => ¬ rd a 31 (27 * 0 + 3 + t) 0 = 0) 24 0 0
    rw [wr_of (z := waitC a) (by unfold waitC; omega) (by unfold waitC; omega)] at q
    exact q
  refine Wx.cX (y := iX10_now) (avs := []) (rest := [_, _]) hC hN tkL_asks rfl rfl kX10_now ⟨by decide, by decide⟩ rfl (M_now a o) rfl (Nat.le_of_ble_eq_true rfl) rfl ⟨by show (_ : Nat) ≤ 9000; omega, by show (_ : Nat) ≤ 6 * 9000; omega⟩ ?_
  rintro r a' o' ⟨rfl, rfl, rfl⟩
  refine wpk hC ⟨by show (_ : Nat) ≤ 9000; omega, by show (_ : Nat) ≤ 6 * 9000; omega⟩ tkL_asks [103, 105] 200 ?_
  refine ⟨fun _ => Wx.pick [0, 1, 2] rfl kk, fun q => ?_⟩
  rw [e1, e2] at q
  exact absurd (s4 hwt) q
end CTX
