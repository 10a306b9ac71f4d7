/-! ===== asks, II: the targets ===== -/
noncomputable def many (a : Mm) (i : Nat) : Int := sm (fun t => cnt a 0 t (rd a 27 0 1).toNat) i
section CTX
variable {p : Program} {l : Launch} {e : Env} {s : State} {m : MethodId} {args : Array Value} {below : List Frame} {meth : Method} {c : Code} {Q : State → Prop} {V : Nat → Int → Prop} {D : DD} {ad : Nat → Int → Nat} {A : Nat → Prop}
set_option maxRecDepth 100000 in
set_option maxHeartbeats 1600000 in
theorem asks_4d {a w : Mm} {y mn t : Int} {o : Int64} {c0 s0 : Nat} (hC : Cx V RL cL_asks 11 p (mrmT iL_asks 9000) s m args meth c D ad A) (hN : wNest s) (hT : wThr A s) (hst : l.stackTraces = false) (hD : DA a 0) (hc : c0 + 600 ≤ 9000 ∧ s0 + 3600 ≤ 54000) (t0 : 0 ≤ t) (t1 : t < 24)
    (kk : Wx p l e (mrmT iL_asks 9000) s m args below meth c (c0 + 600) (s0 + 3600) Q V D ad A 11 184 [(0, xr 1 0), (1, xr 40 0), (2, xi y), (4, xi mn), (5, xi t), (6, xi (cnt a 0 t (rd a 27 0 1).toNat))] [] (mix a w) o) :
    ∀ (n i : Nat), ((i + n : Nat) : Int) = rd a 27 0 1 → Wx p l e (mrmT iL_asks 9000) s m args below meth c (c0 + 6 * i) (s0 + 36 * i) Q V D ad A 11 125 [(0, xr 1 0), (1, xr 40 0), (2, xi y), (4, xi mn), (5, xi t), (6, xi (cnt a 0 t i)), (7, xi i)] [] (mix a w) o := by
  obtain ⟨⟨d0, d1⟩, hd, -⟩ := hD
  intro n
  induction n with
  | zero =>
    intro i hi
    have ei : i = (rd a 27 0 1).toNat := by omega
    refine wpk hC ⟨by show (_ : Nat) ≤ 9000; omega, by show (_ : Nat) ≤ 6 * 9000; omega⟩ tkL_asks [] 200 ?_
    refine Wx.cX (y := iX10_data) (avs := []) (rest := [_]) hC hN tkL_asks rfl rfl kX10_data ⟨by decide, by decide⟩ rfl (M_data a o) rfl (Nat.le_of_ble_eq_true rfl) rfl ⟨by show (_ : Nat) ≤ 9000; omega, by show (_ : Nat) ≤ 6 * 9000; omega⟩ ?_
    rintro r a' o' ⟨rfl, rfl, rfl⟩
    refine wpk hC ⟨by show (_ : Nat) ≤ 9000; omega, by show (_ : Nat) ≤ 6 * 9000; omega⟩ tkL_asks [184] 200 ?_
    refine ⟨fun _ => ?_, fun q => ?_⟩
    · rw [← ei] at kk
      exact Wx.widen (by omega) (by omega) (Wx.pick [0, 1, 2, 3, 4, 5] rfl kk)
    · rw [wr_rd, wr_of (by omega) (by omega)] at q
      omega
  | succ n ih =>
    intro i hi
    have i0 : (0 : Int) ≤ (i : Int) := by omega
    have i1 : (i : Int) < rd a 27 0 1 := by omega
    have wi : wr (i : Int) = i := wr_of (by omega) (by omega)
    have hdi := hd i i0 i1
    refine wpk hC ⟨by show (_ : Nat) ≤ 9000; omega, by show (_ : Nat) ≤ 6 * 9000; omega⟩ tkL_asks [] 200 ?_
    refine Wx.cX (y := iX10_data) (avs := []) (rest := [_]) hC hN tkL_asks rfl rfl kX10_data ⟨by decide, by decide⟩ rfl (M_data a o) rfl (Nat.le_of_ble_eq_true rfl) rfl ⟨by show (_ : Nat) ≤ 9000; omega, by show (_ : Nat) ≤ 6 * 9000; omega⟩ ?_
    rintro r a' o' ⟨rfl, rfl, rfl⟩
    refine wpk hC ⟨by show (_ : Nat) ≤ 9000; omega, by show (_ : Nat) ≤ 6 * 9000; omega⟩ tkL_asks [184] 200 ?_
    refine ⟨fun q => ?_, fun _ => ?_⟩
    · rw [wr_rd, wi] at q
      omega
    have tail : ∀ b : Int, b = bz (gdP a 0 t i) → Wx p l e (mrmT iL_asks 9000) s m args below meth c (c0 + 6 * i + 2 + 2 + 2) (s0 + 36 * i + 6 * 2 + 6 * 2 + 6 * 2) Q V D ad A 11 175 [(0, xr 1 0), (1, xr 40 0), (2, xi y), (4, xi mn), (5, xi t), (6, xi (cnt a 0 t i)), (7, xi i)] [xi b, xi (cnt a 0 t i)] (mix a w) o := by
      intro b hb
      refine wpk hC ⟨by show (_ : Nat) ≤ 9000; omega, by show (_ : Nat) ≤ 6 * 9000; omega⟩ tkL_asks [125] 200 ?_
      have h9 := ih (i + 1) (by omega)
      rw [show cnt a 0 t (i + 1) = cnt a 0 t i + b by rw [hb]; rfl] at h9
      exact h9
    refine Wx.cT (y := iX10_datum) (k := 2) (avs := [_, _]) (rest := [_]) hC hN hT hst tkL_asks rfl rfl kX10_datum ⟨by decide, by decide⟩ rfl (M_datum a o i 0 wi rfl d1) (noT (ck_n (ix_n i0 i1) rfl)) rfl (Nat.le_of_ble_eq_true rfl) rfl ⟨by show (_ : Nat) ≤ 9000; omega, by show (_ : Nat) ≤ 6 * 9000; omega⟩ ?_
    rintro r a' o' ⟨-, rfl, rfl, rfl⟩
    refine wpk hC ⟨by show (_ : Nat) ≤ 9000; omega, by show (_ : Nat) ≤ 6 * 9000; omega⟩ tkL_asks [174, 175] 200 ?_
    rw [Int.add_zero]
    refine ⟨fun q1 => ?_, fun q1 => ?_⟩
    · rw [wr_rd] at q1
      have hh := tail 0 (bz_f (fun h => q1 h.1)).symm
      refine Wx.widen (k := c0 + 6 * i + 2 + 2 + 2) (n := s0 + 36 * i + 6 * 2 + 6 * 2 + 6 * 2) (by omega) (by omega) ?_
      refine wpk hC ⟨by show (_ : Nat) ≤ 9000; omega, by show (_ : Nat) ≤ 6 * 9000; omega⟩ tkL_asks [175] 200 ?_
      exact hh
    rw [wr_rd] at q1
    refine Wx.cT (y := iX10_datum) (k := 2) (avs := [_, _]) (rest := [_]) hC hN hT hst tkL_asks rfl rfl kX10_datum ⟨by decide, by decide⟩ rfl (M_datum a o i 1 wi rfl d1) (noT (ck_n (ix_n i0 i1) rfl)) rfl (Nat.le_of_ble_eq_true rfl) rfl ⟨by show (_ : Nat) ≤ 9000; omega, by show (_ : Nat) ≤ 6 * 9000; omega⟩ ?_
    rintro r a' o' ⟨-, rfl, rfl, rfl⟩
    refine wpk hC ⟨by show (_ : Nat) ≤ 9000; omega, by show (_ : Nat) ≤ 6 * 9000; omega⟩ tkL_asks [174, 175] 200 ?_
    refine ⟨fun q2 => ?_, fun q2 => ?_⟩
    · rw [wr_rd, wr_of (z := t) (by omega) (by omega)] at q2
      have hh := tail 0 (bz_f (fun h => q2 h.2.1)).symm
      refine Wx.widen (k := c0 + 6 * i + 2 + 2 + 2) (n := s0 + 36 * i + 6 * 2 + 6 * 2 + 6 * 2) (by omega) (by omega) ?_
      refine wpk hC ⟨by show (_ : Nat) ≤ 9000; omega, by show (_ : Nat) ≤ 6 * 9000; omega⟩ tkL_asks [175] 200 ?_
      exact hh
    rw [wr_rd, wr_of (z := t) (by omega) (by omega)] at q2
    refine Wx.cT (y := iX10_datum) (k := 2) (avs := [_, _]) (rest := [_]) hC hN hT hst tkL_asks rfl rfl kX10_datum ⟨by decide, by decide⟩ rfl (M_datum a o i 5 wi rfl d1) (noT (ck_n (ix_n i0 i1) rfl)) rfl (Nat.le_of_ble_eq_true rfl) rfl ⟨by show (_ : Nat) ≤ 9000; omega, by show (_ : Nat) ≤ 6 * 9000; omega⟩ ?_
    rintro r a' o' ⟨-, rfl, rfl, rfl⟩
    refine wpk hC ⟨by show (_ : Nat) ≤ 9000; omega, by show (_ : Nat) ≤ 6 * 9000; omega⟩ tkL_asks [174, 175] 200 ?_
    refine ⟨fun q3 => ?_, fun q3 => ?_⟩
    · rw [wr_rd] at q3
      have hh := tail 0 (bz_f (fun h => q3 h.2.2)).symm
      refine wpk hC ⟨by show (_ : Nat) ≤ 9000; omega, by show (_ : Nat) ≤ 6 * 9000; omega⟩ tkL_asks [175] 200 ?_
      exact hh
    · rw [wr_rd] at q3
      exact tail 1 (bz_t ⟨q1, q2, q3⟩).symm
set_option maxRecDepth 100000 in
set_option maxHeartbeats 1600000 in
theorem asks_4 {a w : Mm} {y n1 : Int} {o : Int64} (hC : Cx V RL cL_asks 11 p (mrmT iL_asks 9000) s m args meth c D ad A) (hN : wNest s) (hT : wThr A s) (hst : l.stackTraces = false) (hJ : JV a) (hn : rd w 40 0 1 = n1) (hn2 : n1 = rd a 5 0 7) (hn3 : n1 ≤ 12)
    (kk : ∀ i : Nat, Wx p l e (mrmT iL_asks 9000) s m args below meth c 7268 43608 Q V D ad A 11 241 [(0, xr 1 0), (1, xr 40 0), (2, xi y), (4, xi (many a i))] [] (mix a w) o) :
    ∀ (n i : Nat), i + n = n1.toNat → Wx p l e (mrmT iL_asks 9000) s m args below meth c (20 + 604 * i) (120 + 3624 * i) Q V D ad A 11 111 [(0, xr 1 0), (1, xr 40 0), (2, xi y), (4, xi (many a i)), (5, xi i)] [] (mix a w) o := by
  have hI := hJ.1.1.1
  have h7 := hI.2.2.2.2.1
  have e40 : rd (mix a w) 40 0 1 = n1 := hn
  obtain ⟨⟨d0, d1⟩, hd, hcn⟩ := hJ.1.2.2
  intro n
  induction n with
  | zero =>
    intro i hi
    refine wpk hC ⟨by show (_ : Nat) ≤ 9000; omega, by show (_ : Nat) ≤ 6 * 9000; omega⟩ tkL_asks [241] 200 ?_
    refine ⟨by decide, fun _ => Wx.widen (by omega) (by omega) (Wx.pick [0, 1, 2, 3] rfl (kk i)), fun q => ?_⟩
    rw [wr_rd, e40, wr_of (by omega) (by omega)] at q
    omega
  | succ n ih =>
    intro i hi
    have i0 : (0 : Int) ≤ (i : Int) := by omega
    have i1 : (i : Int) < rd a 5 0 7 := by omega
    have wi : wr (i : Int) = i := wr_of (by omega) (by omega)
    refine wpk hC ⟨by show (_ : Nat) ≤ 9000; omega, by show (_ : Nat) ≤ 6 * 9000; omega⟩ tkL_asks [241, 125] 200 ?_
    refine ⟨by decide, fun q => ?_, fun _ => ?_⟩
    · rw [wr_rd, e40, wi] at q
      omega
    refine asks_4d hC hN hT hst hJ.1.2.2 (c0 := 20 + 604 * i) (s0 := 120 + 3624 * i) (by omega) (by omega) (by omega) ?_ (rd a 27 0 1).toNat 0 (by omega)
    refine wpk hC ⟨by show (_ : Nat) ≤ 9000; omega, by show (_ : Nat) ≤ 6 * 9000; omega⟩ tkL_asks [] 200 ?_
    refine Wx.cX (y := iX10_data) (avs := []) (rest := []) hC hN tkL_asks rfl rfl kX10_data ⟨by decide, by decide⟩ rfl (M_data a o) rfl (Nat.le_of_ble_eq_true rfl) rfl ⟨by show (_ : Nat) ≤ 9000; omega, by show (_ : Nat) ≤ 6 * 9000; omega⟩ ?_
    rintro r a' o' ⟨rfl, rfl, rfl⟩
    refine wpk hC ⟨by show (_ : Nat) ≤ 9000; omega, by show (_ : Nat) ≤ 6 * 9000; omega⟩ tkL_asks [204, 226] 200 ?_
    have tail : Wx p l e (mrmT iL_asks 9000) s m args below meth c (20 + 604 * i + 600 + 1) (120 + 3624 * i + 3600 + 6 * 1) Q V D ad A 11 204 [(0, xr 1 0), (1, xr 40 0), (2, xi y), (4, xi (many a i)), (5, xi i), (6, xi (cnt a 0 i (rd a 27 0 1).toNat))] [] (mix a w) o := by
      refine wpk hC ⟨by show (_ : Nat) ≤ 9000; omega, by show (_ : Nat) ≤ 6 * 9000; omega⟩ tkL_asks [] 200 ?_
      refine Wx.sT (y := iL_low) (k := 0) (avs := [_, _]) (rest := [_, _]) hC hN hT hst tkL_asks rfl rfl rfl kL_low ⟨by decide, by decide⟩ (M_low _ _ _ _ (by decide)) (fun _ _ _ h => h) rfl (Nat.le_of_ble_eq_true rfl) rfl rfl ⟨by show (_ : Nat) ≤ 9000; omega, by show (_ : Nat) ≤ 6 * 9000; omega⟩ ?_
      rintro r mm' o' ⟨rfl, rfl, rfl⟩
      refine wpk hC ⟨by show (_ : Nat) ≤ 9000; omega, by show (_ : Nat) ≤ 6 * 9000; omega⟩ tkL_asks [] 200 ?_
      refine Wx.sT (y := iL_low) (k := 0) (avs := [_, _]) (rest := [_, _, _]) hC hN hT hst tkL_asks rfl rfl rfl kL_low ⟨by decide, by decide⟩ (M_low _ _ _ _ (by decide)) (fun _ _ _ h => h) rfl (Nat.le_of_ble_eq_true rfl) rfl rfl ⟨by show (_ : Nat) ≤ 9000; omega, by show (_ : Nat) ≤ 6 * 9000; omega⟩ ?_
      rintro r mm' o' ⟨rfl, rfl, rfl⟩
      have l1 := low_r y (n := 3) (by decide) (by decide)
      have l2 := low_r (jshr y 3) (n := 30) (by decide) (by decide)
      refine wpk hC ⟨by show (_ : Nat) ≤ 9000; omega, by show (_ : Nat) ≤ 6 * 9000; omega⟩ tkL_asks [] 200 ?_
      refine Wx.cT (y := iX10_chances) (k := 3) (avs := [_, _, _]) (rest := []) hC hN hT hst tkL_asks rfl rfl kX10_chances ⟨by decide, by decide⟩ rfl (M_chances a o i (lowC y 3) (lowC (jshr y 3) 30) wi (wr_low _ (by decide) (by decide)) (wr_low _ (by decide) (by decide)) hI) (noT (ck_n (ix_n i0 i1) (ck_n (ix_n l1.1 l1.2) (ix_n l2.1 l2.2)))) rfl (Nat.le_of_ble_eq_true rfl) rfl ⟨by show (_ : Nat) ≤ 9000; omega, by show (_ : Nat) ≤ 6 * 9000; omega⟩ ?_
      rintro r a' o' ⟨-, rfl, rfl, rfl⟩
      have hr := chan_r a i (lowC y 3) (lowC (jshr y 3) 30)
      refine wpk hC ⟨by show (_ : Nat) ≤ 9000; omega, by show (_ : Nat) ≤ 6 * 9000; omega⟩ tkL_asks [111, 226] 200 ?_
      refine ⟨fun _ => ?_, fun q => ?_⟩
      · have h8 : Wx p l e (mrmT iL_asks 9000) s m args below meth c (20 + 604 * i + 600 + 1 + 0 + 0 + 3) (120 + 3624 * i + 3600 + 6 * 1 + 6 * 0 + 6 * 0 + 6 * 3) Q V D ad A 11 111 [(0, xr 1 0), (1, xr 40 0), (2, xi y), (4, xi (many a i + cnt a 0 i (rd a 27 0 1).toNat)), (5, xi ((i : Int) + 1))] [] (mix a w) o :=
          Wx.widen (k := 20 + 604 * (i + 1)) (n := 120 + 3624 * (i + 1)) (by omega) (by omega) (ih (i + 1) (by omega))
        exact Wx.pick [0, 1, 2, 3, 4] rfl h8
      · rw [wr_of (z := chanC a i (lowC y 3) (lowC (jshr y 3) 30)) (by omega) (by omega)] at q
        omega
    refine ⟨fun _ => Wx.widen (by omega) (by omega) tail, fun q => ?_⟩
    rw [wr_rd, show wr 100 = 100 from rfl] at q
    refine Wx.cT (y := iX10_visits) (k := 1) (avs := [_]) (rest := [_]) hC hN hT hst tkL_asks rfl rfl kX10_visits ⟨by decide, by decide⟩ rfl (M_visits a o i wi hI) (noT (ix_n i0 i1)) rfl (Nat.le_of_ble_eq_true rfl) rfl ⟨by show (_ : Nat) ≤ 9000; omega, by show (_ : Nat) ≤ 6 * 9000; omega⟩ ?_
    rintro r a' o' ⟨-, rfl, rfl, rfl⟩
    refine wpk hC ⟨by show (_ : Nat) ≤ 9000; omega, by show (_ : Nat) ≤ 6 * 9000; omega⟩ tkL_asks [204, 226] 200 ?_
    refine ⟨fun q2 => ?_, fun _ => tail⟩
    have hr := cnt_r a 0 i (rd a 27 0 1).toNat
    rw [wr_rd, wr_of (z := cnt a 0 i (rd a 27 0 1).toNat) (by omega) (by omega)] at q2
    exact absurd (hcn (by omega) i i0 (by omega)).symm q2
end CTX
