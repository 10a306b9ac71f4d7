/-! ===== asks, IV ===== -/
def asksF (a w : Mm) : FT := fun r m' _ => r = some (xi 1) ∧ ∃ a', m' = mix a' w ∧ JV a' ∧ (∀ j, rd a' 5 0 j = rd a 5 0 j) ∧ rd a' 26 0 8 = rd a 26 0 8
section CTX
variable {p : Program} {l : Launch} {e : Env} {s : State} {m : MethodId} {args : Array Value} {below : List Frame} {meth : Method} {c : Code} {Q : State → Prop} {V : Nat → Int → Prop} {D : DD} {ad : Nat → Int → Nat} {A : Nat → Prop}
set_option maxRecDepth 100000 in
set_option maxHeartbeats 3200000 in
theorem asks_6 {a w : Mm} {y mn : Int} {o : Int64} (hC : Cx V RL cL_asks 11 p (mrmT iL_asks 9000) s m args meth c D ad A) (hN : wNest s) (hT : wThr A s) (hst : l.stackTraces = false) (hJ : JV a) (m0 : 0 ≤ mn) (m1 : mn ≤ rd a 27 0 1) (hF : ∀ r mm o, asksF a w r mm o → rOK p l e (mrmT iL_asks 9000) s m args below meth c 9000 (6 * 9000) Q V D ad A cL_asks 2 r mm o) : Wx p l e (mrmT iL_asks 9000) s m args below meth c 8768 52608 Q V D ad A 11 385 [(0, xr 1 0), (1, xr 40 0), (2, xi y), (4, xi mn)] [] (mix a w) o := by
  have hI := hJ.1.1.1
  obtain ⟨⟨d0, d1⟩, -, -⟩ := hJ.1.2.2
  have l1 := low_r (jshr y 4) (n := 3) (by decide) (by decide)
  have l2 := low_r (jshr y 6) (n := 30) (by decide) (by decide)
  have l3 := low_r y (n := 30) (by decide) (by decide)
  have w1 := wr_low (jshr y 4) (n := 3) (by decide) (by decide)
  have w2 := wr_low (jshr y 6) (n := 30) (by decide) (by decide)
  have w3 := wr_low y (n := 30) (by decide) (by decide)
  refine wpk hC ⟨by show (_ : Nat) ≤ 9000; omega, by show (_ : Nat) ≤ 6 * 9000; omega⟩ tkL_asks [] 200 ?_
  refine Wx.sT (y := iL_low) (k := 0) (avs := [_, _]) (rest := []) hC hN hT hst tkL_asks rfl rfl rfl kL_low ⟨by decide, by decide⟩ (M_low _ _ _ _ (by decide)) (fun _ _ _ h => h) rfl (Nat.le_of_ble_eq_true rfl) rfl rfl ⟨by show (_ : Nat) ≤ 9000; omega, by show (_ : Nat) ≤ 6 * 9000; omega⟩ ?_
  rintro r mm' o' ⟨rfl, rfl, rfl⟩
  refine wpk hC ⟨by show (_ : Nat) ≤ 9000; omega, by show (_ : Nat) ≤ 6 * 9000; omega⟩ tkL_asks [] 200 ?_
  refine Wx.sT (y := iL_low) (k := 0) (avs := [_, _]) (rest := [_, _]) hC hN hT hst tkL_asks rfl rfl rfl kL_low ⟨by decide, by decide⟩ (M_low _ _ _ _ (by decide)) (fun _ _ _ h => h) rfl (Nat.le_of_ble_eq_true rfl) rfl rfl ⟨by show (_ : Nat) ≤ 9000; omega, by show (_ : Nat) ≤ 6 * 9000; omega⟩ ?_
  rintro r mm' o' ⟨rfl, rfl, rfl⟩
  refine wpk hC ⟨by show (_ : Nat) ≤ 9000; omega, by show (_ : Nat) ≤ 6 * 9000; omega⟩ tkL_asks [] 200 ?_
  refine Wx.cT (y := iX10_bestOrder) (k := 2) (avs := [_, _]) (rest := []) hC hN hT hst tkL_asks rfl rfl kX10_bestOrder ⟨by decide, by decide⟩ rfl (M_bestOrder a o (lowC (jshr y 4) 3) (lowC (jshr y 6) 30) w1 w2 hI) (noT (ck_n (ix_n l1.1 l1.2) (ix_n l2.1 l2.2))) rfl (Nat.le_of_ble_eq_true rfl) rfl ⟨by show (_ : Nat) ≤ 9000; omega, by show (_ : Nat) ≤ 6 * 9000; omega⟩ ?_
  rintro r a' o' ⟨-, rfl, rfl, rfl⟩
  obtain ⟨hr, ro⟩ := bst_r (a := lowC (jshr y 4) 3) hI l2.1
  have hJb := JV_best (s := lowC (jshr y 4) 3) hJ l2.1
  have e27 : rd (bstM a (lowC (jshr y 4) 3) (lowC (jshr y 6) 30)) 27 0 1 = rd a 27 0 1 := ro _ _ _ (by decide) (by decide)
  generalize bstM a (lowC (jshr y 4) 3) (lowC (jshr y 6) 30) = b at *
  generalize bstR a (lowC (jshr y 4) 3) (lowC (jshr y 6) 30) = v at *
  have wv : wr v = v := wr_of (by omega) (by omega)
  have hs := seen_r hJb.1.1.2.1 (s := lowC (jshr y 4) 3) (t := 3 * 24 + 5) l1.1 l1.2 (by decide) (by decide)
  have hm := moon_r hJb.1.1.2.1 (n := lowC y 30) l3.1 l3.2
  have ws : wr (seenC b (lowC (jshr y 4) 3) (3 * 24 + 5)) = seenC b (lowC (jshr y 4) 3) (3 * 24 + 5) := wr_seenC _ _ _
  have wm : wr (moonC b (lowC y 30)) = moonC b (lowC y 30) := wr_of (by omega) (by omega)
  refine wpk hC ⟨by show (_ : Nat) ≤ 9000; omega, by show (_ : Nat) ≤ 6 * 9000; omega⟩ tkL_asks [488] 200 ?_
  refine ⟨fun q => ?_, fun _ => ⟨fun q => ?_, fun _ => ?_⟩⟩
  · rw [wv] at q; omega
  · rw [wv, show wr 25 = 25 from rfl] at q; omega
  refine Wx.cX (y := iX10_data) (avs := []) (rest := [_]) hC hN tkL_asks rfl rfl kX10_data ⟨by decide, by decide⟩ rfl (M_data b o) rfl (Nat.le_of_ble_eq_true rfl) rfl ⟨by show (_ : Nat) ≤ 9000; omega, by show (_ : Nat) ≤ 6 * 9000; omega⟩ ?_
  rintro r a' o' ⟨rfl, rfl, rfl⟩
  refine wpk hC ⟨by show (_ : Nat) ≤ 9000; omega, by show (_ : Nat) ≤ 6 * 9000; omega⟩ tkL_asks [488] 200 ?_
  refine ⟨fun q => ?_, fun _ => ?_⟩
  · rw [wr_rd, e27, wr_of (z := mn) (by omega) (by omega)] at q; omega
  refine Wx.cT (y := iX10_seeing) (k := 4) (avs := [_, _, _]) (rest := []) hC hN hT hst tkL_asks rfl rfl kX10_seeing ⟨by decide, by decide⟩ rfl (M_seeing b o (lowC (jshr y 4) 3) 3 5 w1 rfl rfl) (noT (ck_n (ix_n l1.1 l1.2) rfl)) rfl (Nat.le_of_ble_eq_true rfl) rfl ⟨by show (_ : Nat) ≤ 9000; omega, by show (_ : Nat) ≤ 6 * 9000; omega⟩ ?_
  rintro r a' o' ⟨-, rfl, rfl, rfl⟩
  refine wpk hC ⟨by show (_ : Nat) ≤ 9000; omega, by show (_ : Nat) ≤ 6 * 9000; omega⟩ tkL_asks [488] 200 ?_
  refine ⟨fun q => ?_, fun _ => ?_⟩
  · rw [ws] at q; omega
  refine Wx.cT (y := iX10_seeing) (k := 4) (avs := [_, _, _]) (rest := []) hC hN hT hst tkL_asks rfl rfl kX10_seeing ⟨by decide, by decide⟩ rfl (M_seeing b o (lowC (jshr y 4) 3) 3 5 w1 rfl rfl) (noT (ck_n (ix_n l1.1 l1.2) rfl)) rfl (Nat.le_of_ble_eq_true rfl) rfl ⟨by show (_ : Nat) ≤ 9000; omega, by show (_ : Nat) ≤ 6 * 9000; omega⟩ ?_
  rintro r a' o' ⟨-, rfl, rfl, rfl⟩
  refine wpk hC ⟨by show (_ : Nat) ≤ 9000; omega, by show (_ : Nat) ≤ 6 * 9000; omega⟩ tkL_asks [488] 200 ?_
  refine ⟨fun q => ?_, fun _ => ?_⟩
  · rw [ws, show wr 51 = 51 from rfl] at q; omega
  refine Wx.sT (y := iL_low) (k := 0) (avs := [_, _]) (rest := [_]) hC hN hT hst tkL_asks rfl rfl rfl kL_low ⟨by decide, by decide⟩ (M_low _ _ _ _ (by decide)) (fun _ _ _ h => h) rfl (Nat.le_of_ble_eq_true rfl) rfl rfl ⟨by show (_ : Nat) ≤ 9000; omega, by show (_ : Nat) ≤ 6 * 9000; omega⟩ ?_
  rintro r mm' o' ⟨rfl, rfl, rfl⟩
  refine wpk hC ⟨by show (_ : Nat) ≤ 9000; omega, by show (_ : Nat) ≤ 6 * 9000; omega⟩ tkL_asks [] 200 ?_
  refine Wx.cT (y := iX10_light) (k := 1) (avs := [_]) (rest := []) hC hN hT hst tkL_asks rfl rfl kX10_light ⟨by decide, by decide⟩ rfl (M_light b o (lowC y 30) w3) (noT (ix_n l3.1 l3.2)) rfl (Nat.le_of_ble_eq_true rfl) rfl ⟨by show (_ : Nat) ≤ 9000; omega, by show (_ : Nat) ≤ 6 * 9000; omega⟩ ?_
  rintro r a' o' ⟨-, rfl, rfl, rfl⟩
  refine wpk hC ⟨by show (_ : Nat) ≤ 9000; omega, by show (_ : Nat) ≤ 6 * 9000; omega⟩ tkL_asks [488] 200 ?_
  refine ⟨fun q => ?_, fun _ => ?_⟩
  · rw [wm] at q; omega
  refine Wx.sT (y := iL_low) (k := 0) (avs := [_, _]) (rest := [_]) hC hN hT hst tkL_asks rfl rfl rfl kL_low ⟨by decide, by decide⟩ (M_low _ _ _ _ (by decide)) (fun _ _ _ h => h) rfl (Nat.le_of_ble_eq_true rfl) rfl rfl ⟨by show (_ : Nat) ≤ 9000; omega, by show (_ : Nat) ≤ 6 * 9000; omega⟩ ?_
  rintro r mm' o' ⟨rfl, rfl, rfl⟩
  refine wpk hC ⟨by show (_ : Nat) ≤ 9000; omega, by show (_ : Nat) ≤ 6 * 9000; omega⟩ tkL_asks [] 200 ?_
  refine Wx.cT (y := iX10_light) (k := 1) (avs := [_]) (rest := []) hC hN hT hst tkL_asks rfl rfl kX10_light ⟨by decide, by decide⟩ rfl (M_light b o (lowC y 30) w3) (noT (ix_n l3.1 l3.2)) rfl (Nat.le_of_ble_eq_true rfl) rfl ⟨by show (_ : Nat) ≤ 9000; omega, by show (_ : Nat) ≤ 6 * 9000; omega⟩ ?_
  rintro r a' o' ⟨-, rfl, rfl, rfl⟩
  refine Wx.widen (k := 9000) (n := 6 * 9000) (by decide) (by decide) ?_
  refine wpn hC ⟨by decide, by decide⟩ tkL_asks hF [488] 200 ?_
  refine ⟨fun q => ?_, fun _ => ⟨Or.inr rfl, rfl, b, rfl, hJb.1, hJb.2⟩⟩
  rw [wm, show wr 101 = 101 from rfl] at q
  omega
end CTX
set_option maxRecDepth 100000 in
set_option maxHeartbeats 3200000 in
theorem M_asks {a w : Mm} (o : Int64) (y : Int) (hJ : JV a) (hn : rd w 40 0 1 = rd a 5 0 7) (hn3 : rd a 5 0 7 ≤ 12) : MetN iL_asks 9000 [xr 1 0, xr 40 0, xi y] (mix a w) o (asksF a w) := by
  refine MetN.of 2 (by decide +kernel) rfl (Or.inr rfl) (Nat.le_of_ble_eq_true rfl) ⟨by decide, by decide⟩ ?_
  intro p l e s m args below meth c Q V D ad hC hN hT hR hst hok hF
  have hc := hJ.1.2.2.1
  have h7 := hJ.1.1.1.2.2.2.2.1
  refine wpk hC ⟨by decide, by decide⟩ tkL_asks [5] 200 ?_
  refine asks_1 hC hN hT hst ?_ 4 0 rfl
  refine wpk hC ⟨by decide, by decide⟩ tkL_asks [38] 200 ?_
  have e0 : W1 a 4 + W2 a 0 = W1 a 4 := Int.add_zero _
  have h2 := asks_2 (y := y) (o := o) (w := w) (Q := Q) (below := below) (e := e) hC hN hT hst (a := a) ?_ 3 0 rfl
  · rw [e0] at h2
    exact h2
  refine asks_3 hC hN hJ ?_
  refine wpk hC ⟨by decide, by decide⟩ tkL_asks [111] 200 ?_
  refine asks_4 hC hN hT hst hJ hn rfl hn3 (fun i => ?_) (rd a 5 0 7).toNat 0 (by omega)
  refine wpk hC ⟨by decide, by decide⟩ tkL_asks [244] 200 ?_
  have hm := many_le a i (rd a 27 0 1).toNat
  refine asks_5 hC hN hT hst hJ ?_ (rd a 27 0 1).toNat 0 (by omega)
  refine asks_6 hC hN hT hst hJ hm.1 ?_ hF
  have := hm.2
  show many a i ≤ _
  unfold many
  omega
