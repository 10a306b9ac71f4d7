/-! ===== the model, XXVI: an order's filled slots ===== -/
/-- the first slot from v on that suits; v itself from 24 on -/
noncomputable def fvw (mm : Mm) (t s n : Int) : Nat → Int → Int
  | 0, v => v
  | k + 1, v => pif (msuP mm t s n v (rd mm 57 0 t)) v (fvw mm t s n k (v + 1))
noncomputable def fvF (mm : Mm) (t s n v : Int) : Int := fvw mm t s n (24 - v).toNat v
theorem fvw_r (mm : Mm) (t s n : Int) : ∀ (k : Nat) (v : Int), v ≤ fvw mm t s n k v ∧ fvw mm t s n k v ≤ v + k
  | 0, v => by unfold fvw; omega
  | k + 1, v => by
    have h := fvw_r mm t s n k (v + 1)
    unfold fvw
    by_cases q : msuP mm t s n v (rd mm 57 0 t)
    · rw [pif_t q]; omega
    · rw [pif_f q]; omega
noncomputable def filR (mm : Mm) (s n : Int) (k : Nat) : Nat → Int → Int → Int → Int → Int → Int
  | 0, _, _, _, _, tt => tt
  | i + 1, w, u, c, tm, tt =>
    filR mm s n k i (w + (-1)) (jor u (jshl 1 (pkX u k 0 (jrem c w) (-1)))) (jdiv c w)
      (pif (fvF mm (rd mm 100 0 (pkX u k 0 (jrem c w) (-1))) s n tm < 24) (fvF mm (rd mm 100 0 (pkX u k 0 (jrem c w) (-1))) s n tm + rd mm 57 0 (rd mm 100 0 (pkX u k 0 (jrem c w) (-1)))) tm)
      (tt + pif (fvF mm (rd mm 100 0 (pkX u k 0 (jrem c w) (-1))) s n tm < 24) (rd mm 57 0 (rd mm 100 0 (pkX u k 0 (jrem c w) (-1)))) 0)
theorem cnt0 : ∀ k : Fin 6, cntF 0 k.val 0 = (k.val : Int) := by decide +kernel
set_option maxRecDepth 100000 in
set_option maxHeartbeats 400000 in
theorem M_filled (a n k c9 : Int) (mm : Mm) (o : Int64) (hI : IM mm) (a0 : 0 ≤ a) (a1 : a < 3) (n0 : 0 ≤ n) (n1 : n < 30) (k0 : 0 ≤ k) (k1 : k ≤ 5) (c0 : 0 ≤ c9) (c1 : c9 < 1000) (hf : ∀ j, 0 ≤ j → j < k → 0 ≤ rd mm 100 0 j ∧ rd mm 100 0 j < 24) : MetX iX11_filled [xr 40 0, xi a, xi n, xi k, xi c9] mm o (rto (xi (filR mm a n k.toNat k.toNat k 0 c9 0 0)) mm o) := by
  refine MetX.of 1 (by decide +kernel) rfl (Nat.le_of_ble_eq_true rfl) ⟨by decide, by decide⟩ ?_
  intro p l e s m args below meth c Q V D ad A hC hN hok hF
  have loop : ∀ (i : Nat) (w u cc tm tt : Int), w = i → w ≤ k → cntF u k.toNat 0 = w → 0 ≤ u → u < 32 → 0 ≤ cc → cc < 1000 → 0 ≤ tm → tm < 40 → filR mm a n k.toNat i w u cc tm tt = filR mm a n k.toNat k.toNat k 0 c9 0 0 → Wx p l e (mrm iX11_filled) s m args below meth c 0 0 Q V D ad A 14 16 [(0, xr 40 0), (1, xi a), (2, xi n), (3, xi k), (4, xi c9), (5, xi u), (6, xi cc), (7, xi tm), (8, xi tt), (9, xi w)] [] mm o := by
    intro i
    induction i with
    | zero =>
      intro w u cc tm tt hw hi hu u0 u1 cc0 cc1 m0 m1 he
      refine wpx hC tkX11_filled hF [16] 200 ?_
      refine ⟨fun _ => ⟨congrArg (fun z => some (xi z)) he, rfl, rfl⟩, fun q => absurd (by rw [hw]; decide) q⟩
    | succ i ih =>
      intro w u cc tm tt hw hi hu u0 u1 cc0 cc1 m0 m1 he
      have w1 : 1 ≤ w := by omega
      have w5 : w ≤ 5 := by omega
      have wi : wr w = w := wr_of (by omega) (by omega)
      have er : jrem cc w = cc % w := jrem_of cc0 (by omega) (by omega) (by omega)
      have ed : jdiv cc w = cc / w := jdiv_of cc0 (by omega) (by omega) (by omega)
      have r0 : 0 ≤ jrem cc w := by rw [er]; exact Int.emod_nonneg _ (by omega)
      have r1 : jrem cc w < w := by rw [er]; exact Int.emod_lt_of_pos _ (by omega)
      have d0 : 0 ≤ jdiv cc w := by rw [ed]; exact Int.ediv_nonneg cc0 (by omega)
      have d1 : jdiv cc w < 1000 := by rw [ed]; have := Int.ediv_le_self w cc0; omega
      obtain ⟨⟨x0, x1⟩, p1, p2, p3⟩ := pk_ok (k := k.toNat) (u := u) (r := jrem cc w) (by omega) u0 u1 r0 (by omega) (by omega)
      have stp : ∀ d8 x, d8 = jdiv cc w → x = pkX u k.toNat 0 (jrem cc w) (-1) → ∀ r9, Wx p l e (mrm iX11_filled) s m args below meth c 0 0 Q V D ad A 14 109 [(0, xr 40 0), (1, xi a), (2, xi n), (3, xi k), (4, xi c9), (5, xi u), (6, xi d8), (7, xi tm), (8, xi tt), (9, xi w), (10, xi r9), (11, xi x)] [] mm o := by
        intro d8 x hd hx r9
        rw [← hx] at x0 x1 p1 p2 p3
        rw [← hd] at d0 d1
        obtain ⟨t0, t1⟩ := hf x x0 (by omega)
        obtain ⟨-, ⟨l0, l1⟩, ⟨i0, i1⟩⟩ := hI.2.2.2.1 (rd mm 100 0 x) t0 (by omega)
        have t2 : 0 ≤ rd mm 100 0 x ∧ rd mm 100 0 x < 34 := by omega
        have he2 : ∀ v, v = fvF mm (rd mm 100 0 x) a n tm → filR mm a n k.toNat i (w + (-1)) (jor u (jshl 1 x)) d8 (pif (v < 24) (v + rd mm 57 0 (rd mm 100 0 x)) tm) (tt + pif (v < 24) (rd mm 57 0 (rd mm 100 0 x)) 0) = filR mm a n k.toNat k.toNat k 0 c9 0 0 := by
          intro v hv
          rw [← he, hv, hx, hd]
          rfl
        obtain ⟨t, ht⟩ : ∃ t, rd mm 100 0 x = t := ⟨_, rfl⟩
        rw [ht] at t0 t1 t2 l0 l1 i0 i1
        simp only [ht] at he2
        have hT : fvF mm t a n tm ≤ 40 := by
          have := fvw_r mm t a n (24 - tm).toNat tm
          unfold fvF; omega
        have fin : ∀ v, 0 ≤ v → v ≤ 40 → v = fvF mm t a n tm → Wx p l e (mrm iX11_filled) s m args below meth c 0 0 Q V D ad A 14 164 [(0, xr 40 0), (1, xi a), (2, xi n), (3, xi k), (4, xi c9), (5, xi (jor u (jshl 1 x))), (6, xi d8), (7, xi tm), (8, xi tt), (9, xi w), (12, xi t), (13, xi v)] [] mm o := by
          intro v v0 v1 hv
          have h2 := he2 v hv
          have j208 : ∀ y z, y = pif (v < 24) (rd mm 57 0 t) 0 → z = pif (v < 24) (v + rd mm 57 0 t) tm → 0 ≤ z → z < 40 → Wx p l e (mrm iX11_filled) s m args below meth c 0 0 Q V D ad A 14 208 [(0, xr 40 0), (1, xi a), (2, xi n), (3, xi k), (4, xi c9), (5, xi (jor u (jshl 1 x))), (6, xi d8), (7, xi z), (8, xi tt), (9, xi w), (12, xi t), (13, xi v)] [xi y, xi tt] mm o := by
            intro y z hy hz z0 z1
            refine wpx hC tkX11_filled hF [16] 200 ?_
            rw [← hy, ← hz] at h2
            have h3 := ih (w + (-1)) (jor u (jshl 1 x)) d8 z (tt + y) (by omega) (by omega) (by rw [p1, hu]; omega) p2 p3 d0 d1 z0 z1 h2
            exact Wx.pick [0, 1, 2, 3, 4, 5, 6, 7, 8, 9] rfl h3
          have j186 : ∀ z, z = pif (v < 24) (v + rd mm 57 0 t) tm → 0 ≤ z → z < 40 → Wx p l e (mrm iX11_filled) s m args below meth c 0 0 Q V D ad A 14 186 [(0, xr 40 0), (1, xi a), (2, xi n), (3, xi k), (4, xi c9), (5, xi (jor u (jshl 1 x))), (6, xi d8), (7, xi tm), (8, xi tt), (9, xi w), (12, xi t), (13, xi v)] [xi z] mm o := by
            intro z hz z0 z1
            refine wpx hC tkX11_filled hF [208] 200 ?_
            refine ⟨fun q => ?_, fun q => ⟨t2, ?_⟩⟩
            · rw [wr_of (by omega) (by omega), wr_of (by omega) (by omega)] at q
              exact j208 0 z (pif_f (by omega)).symm hz z0 z1
            · rw [wr_of (by omega) (by omega), wr_of (by omega) (by omega)] at q
              exact j208 _ z (pif_t (by omega)).symm hz z0 z1
          refine wpx hC tkX11_filled hF [186] 200 ?_
          refine ⟨fun q => ?_, fun q => ⟨t2, ?_⟩⟩
          · rw [wr_of (by omega) (by omega), wr_of (by omega) (by omega)] at q
            exact j186 tm (pif_f (by omega)).symm m0 m1
          · rw [wr_of (by omega) (by omega), wr_of (by omega) (by omega)] at q
            exact j186 _ (pif_t (by omega)).symm (by omega) (by omega)
        have walk : ∀ (q : Nat) (v : Int), 0 ≤ v → v ≤ 40 → (24 - v).toNat = q → fvw mm t a n q v = fvF mm t a n tm → Wx p l e (mrm iX11_filled) s m args below meth c 0 0 Q V D ad A 14 131 [(0, xr 40 0), (1, xi a), (2, xi n), (3, xi k), (4, xi c9), (5, xi (jor u (jshl 1 x))), (6, xi d8), (7, xi tm), (8, xi tt), (9, xi w), (12, xi t), (13, xi v)] [] mm o := by
          intro q
          induction q with
          | zero =>
            intro v v0 v1 hq hv
            refine wpx hC tkX11_filled hF [131, 164] 200 ?_
            refine ⟨fun _ => fin v v0 v1 hv, fun q => ?_⟩
            rw [wr_of (by omega) (by omega), wr_of (by omega) (by omega)] at q; omega
          | succ q ihq =>
            intro v v0 v1 hq hv
            refine wpx hC tkX11_filled hF [131, 164] 200 ?_
            refine ⟨fun q => ?_, fun _ => ⟨t2, ?_⟩⟩
            · rw [wr_of (by omega) (by omega), wr_of (by omega) (by omega)] at q; omega
            refine Wx.callV (x := iX11_filled) (y := iX11_suits) (k := 40) (avs := [_, _, _, _, _]) (rest := []) hC hN tkX11_filled rfl rfl kX11_suits rfl (M_msuits _ _ _ _ _ _ _ t0 (by omega) a0 a1 n0 n1 v0 (by omega) (by omega) (by omega) i0 i1) ⟨rfl, rfl⟩ rfl (Nat.le_of_ble_eq_true rfl) (by exact nol rfl) ?_
            rintro r mm' o' ⟨rfl, rfl, rfl⟩
            refine wpx hC tkX11_filled hF [131, 164] 200 ?_
            refine ⟨fun q => fin v v0 v1 ?_, fun q => ihq (v + 1) (by omega) (by omega) (by omega) ?_⟩
            · rw [← hv]; exact (pif_t (yb q)).symm
            · rw [← hv]; exact (pif_f (nb q)).symm
        refine wpx hC tkX11_filled hF [131] 200 ?_
        refine ⟨⟨x0, by show x < (5 : Int); omega⟩, ?_⟩
        have hw := walk _ tm m0 (by omega) rfl rfl
        rw [← ht] at hw
        exact Wx.pick [0, 1, 2, 3, 4, 5, 6, 7, 8, 9, 12, 13] rfl hw
      refine wpx hC tkX11_filled hF [41] 200 ?_
      refine ⟨fun q => ?_, fun q => ⟨fun h => ?_, fun h => ?_, ?_⟩⟩
      · rw [wi] at q; omega
      · rw [wi] at h; omega
      · rw [wi] at h; omega
      exact pk_walk hC hF k0 k1 k.toNat 0 _ (-1) (by decide) (by omega) (by omega) (by omega) (by decide) (by decide) (stp _ _ rfl rfl)
  refine wpx hC tkX11_filled hF [16] 200 ?_
  have hk : ((k.toNat : Nat) : Int) = k := by omega
  have h := cnt0 ⟨k.toNat, by omega⟩
  exact loop k.toNat k 0 c9 0 0 (by omega) (by omega) (h.trans hk) (by decide) (by decide) c0 c1 (by decide) (by decide) rfl
