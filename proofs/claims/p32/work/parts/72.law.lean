/-! ===== the law, II ===== -/
theorem LV_fill {lo : Int} {a w : Mm} {j : Int} {f : Int → Int} (h : LVR lo a w) : LVR lo a (fill w j f) := by
  have e : ∀ z, rd (fill w j f) 40 0 z = rd w 40 0 z := fun z => by
    unfold rd
    rw [fill_ne _ _ _ (fun q => absurd q.1 (by decide))]
  obtain ⟨h0, h1, h2⟩ := h
  exact ⟨h0, by rw [e, e, e]; exact h1, h2⟩
section CTX
variable {p : Program} {l : Launch} {e : Env} {s : State} {m : MethodId} {below : List Frame} {meth : Method} {c : Code} {D : DD} {ad : Nat → Int → Nat} {N : Nat} {xs : Nat → Int32} {b : Nat} {R : Room}
set_option maxRecDepth 100000 in
set_option maxHeartbeats 1600000 in
theorem law_tail {C9 S9 : Nat} (hRR : R = room_1) (hL : LC R p l s m b meth c D ad N xs) (hc : C9 + 9000 ≤ R.cells ∧ S9 + 54000 ≤ R.slots) {a w : Mm} {x i : Int} (hV : LVR 3 a w) (kk : ∀ (a' : Mm) (o : Int64), LVR 3 a' w → Wx p l e R s m #[Value.ref b] below meth c (C9 + 9000) (S9 + 54000) (lw_Z below #[Value.ref b] s) VL D ad (fun q => s.heap.size ≤ q) 9 240 [(0, xr 0 0), (1, xr 1 0), (2, xr 40 0), (3, xi i)] [] (mix a' w) o) (o : Int64) : Wx p l e R s m #[Value.ref b] below meth c C9 S9 (lw_Z below #[Value.ref b] s) VL D ad (fun q => s.heap.size ≤ q) 9 219 [(0, xr 0 0), (1, xr 1 0), (2, xr 40 0), (3, xi i), (4, xi x)] [] (mix a w) o := by
  obtain ⟨hC, hN, hT, hR, hst, hX, hb, hN9, hret, hb0⟩ := hL
  refine wpk hC ⟨by show (_ : Nat) ≤ R.cells; omega, by show (_ : Nat) ≤ R.slots; omega⟩ tkL_law [] 200 ?_
  refine Wx.sT (y := iL_low) (k := 0) (avs := [_, _]) (rest := []) hC hN hT hst tkL_law rfl rfl rfl kL_low (rm12 hRR rfl) (M_low _ _ _ _ (by decide)) (fun _ _ _ h => h) rfl (Nat.le_of_ble_eq_true rfl) rfl rfl ⟨by show (_ : Nat) ≤ R.cells; omega, by show (_ : Nat) ≤ R.slots; omega⟩ ?_
  rintro r mm' o' ⟨rfl, rfl, rfl⟩
  refine wpk hC ⟨by show (_ : Nat) ≤ R.cells; omega, by show (_ : Nat) ≤ R.slots; omega⟩ tkL_law [240, 238] 200 ?_
  refine ⟨fun _ => ?_, fun _ => ?_⟩
  · exact Wx.widen (k := C9 + 9000) (n := S9 + 54000) (by omega) (by omega) (Wx.pick [0, 1, 2, 3] rfl (kk a o hV))
  obtain ⟨hJ, ⟨n0, n1, n2⟩, h6, h7, h8⟩ := id hV
  refine Wx.sN (y := iL_asks) (k := 9000) (avs := [_, _, _]) (rest := []) hC hN hT hR hst tkL_law rfl rfl rfl kL_asks (rm8 hRR rfl) (M_asks o x hJ n1 h7.2) rfl (Nat.le_of_ble_eq_true rfl) rfl ⟨by show (_ : Nat) ≤ R.cells; omega, by show (_ : Nat) ≤ R.slots; omega⟩ ?_
  rintro r mm' o' ⟨rfl, a', rfl, hJ', h5, -⟩
  refine wpk hC ⟨by show (_ : Nat) ≤ R.cells; omega, by show (_ : Nat) ≤ R.slots; omega⟩ tkL_law [240, 238] 200 ?_
  refine ⟨fun _ => Wx.pick [0, 1, 2, 3] rfl (Wx.widen (k := C9 + 9000) (n := S9 + 54000) (by omega) (by omega) (kk a' o' (LV_keep hV hJ' h5))), fun q => absurd q (by decide)⟩
set_option maxRecDepth 100000 in
set_option maxHeartbeats 1600000 in
theorem law_mid {C9 S9 : Nat} (hRR : R = room_1) (hL : LC R p l s m b meth c D ad N xs) (hc : C9 + 92 ≤ R.cells ∧ S9 + 552 ≤ R.slots) {a w : Mm} {x y i kd : Int} {f : Int → Int} {q9 : Nat} (hV : LVR 3 a w) (k0 : 0 ≤ kd) (k1 : kd < 15) (hq : s.heap.size ≤ q9) (hfr : ∀ k i, VL k i → ad k i < q9) (hf : DN (GT a (rd w 40 0 1)) f (fun _ => True))
    (kk : ∀ (a' w' : Mm) (o : Int64), LVR 3 a' w' → Wx p l e R s m #[Value.ref b] below meth c (C9 + 92) (S9 + 552) (lw_Z below #[Value.ref b] s) VL D ad (fun q => s.heap.size ≤ q) 9 219 [(0, xr 0 0), (1, xr 1 0), (2, xr 40 0), (3, xi i), (4, xi x)] [] (mix a' w') o) (o : Int64) : Wx p l e R s m #[Value.ref b] below meth c C9 S9 (lw_Z below #[Value.ref b] s) (vU VL 0) D (adU ad 0 q9) (fun q => s.heap.size ≤ q) 9 174 [(0, xr 0 0), (1, xr 1 0), (2, xr 40 0), (3, xi i), (4, xi x), (5, xi y), (6, xi kd)] [xr 41 0] (mix a (fill w 0 f)) o := by
  obtain ⟨hC0, hN, hT, hR, hst, hX, hb, hN9, hret, hb0⟩ := hL
  have hC := hC0.add (VL41 0) (by decide) (by decide) hfr hq
  have hn41 : ¬ vU VL 0 41 1 := fun h => h.elim (VL41 1) (fun z => absurd z.2 (by decide))
  have hLk : ∀ v ∈ ([(0, xr 0 0), (1, xr 1 0), (2, xr 40 0), (3, xi i), (4, xi x)] : List (Nat × AV)), okl VL v.2 := by
    intro v hv
    simp only [List.mem_cons, List.not_mem_nil, or_false] at hv
    rcases hv with rfl | rfl | rfl | rfl | rfl
    · exact Or.inl ⟨rfl, rfl⟩
    · exact Or.inr ⟨by decide, by decide, by decide⟩
    · exact Or.inr ⟨by decide, by decide, by decide⟩
    · trivial
    · trivial
  refine wpk hC ⟨by show (_ : Nat) ≤ R.cells; omega, by show (_ : Nat) ≤ R.slots; omega⟩ tkL_law [] 200 ?_
  refine Wx.sN (y := iL_act) (k := 12) (avs := [_, _, _, _]) (rest := []) hC hN hT hR hst tkL_law rfl rfl rfl kL_act (rm8 hRR rfl) (M_act o y kd k0 k1 (LV_fill hV)) rfl (Nat.le_of_ble_eq_true rfl) rfl ⟨by show (_ : Nat) ≤ R.cells; omega, by show (_ : Nat) ≤ R.slots; omega⟩ ?_
  rintro r mm' o' ⟨v, a', w', rfl, rfl, hV', hv, hw', hcase⟩
  have j219 : ∀ o, Wx p l e R s m #[Value.ref b] below meth c (C9 + 12) (S9 + 6 * 12) (lw_Z below #[Value.ref b] s) (vU VL 0) D (adU ad 0 q9) (fun q => s.heap.size ≤ q) 9 219 [(0, xr 0 0), (1, xr 1 0), (2, xr 40 0), (3, xi i), (4, xi x)] [] (mix a' w') o := fun o =>
    Wx.widen (k := C9 + 92) (n := S9 + 552) (by omega) (by omega) (Wx.drop (hC0.wf) (fun k i hk => ⟨Or.inl hk, adU_old (VL41 0) hk, fun z => rfl⟩) hLk (fun v h => by cases h) (kk a' w' o hV'))
  have j206 : (∀ z, 0 ≤ z → z < 40 → GT a' (rd w' 40 0 1) z = GT a (rd w 40 0 1) z) → ∀ o, Wx p l e R s m #[Value.ref b] below meth c (C9 + 12) (S9 + 6 * 12) (lw_Z below #[Value.ref b] s) (vU VL 0) D (adU ad 0 q9) (fun q => s.heap.size ≤ q) 9 206 [(0, xr 0 0), (1, xr 1 0), (2, xr 40 0), (3, xi i), (4, xi x), (7, xr 41 0)] [] (mix a' w') o := by
    intro hG o
    refine wpk hC ⟨by show (_ : Nat) ≤ R.cells; omega, by show (_ : Nat) ≤ R.slots; omega⟩ tkL_law [] 200 ?_
    refine Wx.tell (j := 1) (rest := [_]) hC hN hT hR hst (by decide) (by decide) hV'.1.1.1.1 (Int.le_of_eq hV'.2.1.2.1) hn41 (fun k i hk h0 => ?_) tkL_law rfl rfl rfl (rm8 hRR rfl) (Nat.le_of_ble_eq_true rfl) ⟨by show (_ : Nat) ≤ R.cells; omega, by show (_ : Nat) ≤ R.slots; omega⟩ (fun q2 f2 o2 hq2 hfr2 hf2 => ?_)
    · rcases hk with hk | ⟨rfl, rfl⟩
      · rw [adU_old (VL41 0) hk]; exact hb0 k i hk h0
      · exact absurd h0 (by decide)
    have hC2 := hC.add (j := 1) hn41 (by decide) (by decide) hfr2 hq2
    have hsame : ∀ z, 0 ≤ z → z < 40 → rd (mix a' (fill w' 1 f2)) 41 0 z = rd (mix a' (fill w' 1 f2)) 41 1 z := fun z z0 z1 => by
      unfold rd
      rw [mixR _ _ (by decide), mixR _ _ (by decide), fill_at, fill_ne _ _ _ (fun h => absurd h.2 (by decide)), hw' 41 0 z (by decide), fill_at, (hf z z0 z1).1 trivial, (hf2 z z0 z1).1 trivial, hG z z0 z1]
    refine Wx.sN (y := iL_same) (k := 0) (avs := [_, _]) (rest := []) hC2 hN hT hR hst tkL_law rfl rfl rfl kL_same (rm8 hRR rfl) (M_same _ o2 hsame) rfl (Nat.le_of_ble_eq_true rfl) rfl ⟨by show (_ : Nat) ≤ R.cells; omega, by show (_ : Nat) ≤ R.slots; omega⟩ ?_
    rintro r mm3 o3 ⟨rfl, rfl⟩
    refine wpk hC2 ⟨by show (_ : Nat) ≤ R.cells; omega, by show (_ : Nat) ≤ R.slots; omega⟩ tkL_law [219, 238] 200 ?_
    refine ⟨fun z => absurd z (by decide), fun _ => ?_⟩
    refine Wx.pick [0, 1, 2, 3, 4] rfl ?_
    refine Wx.widen (k := C9 + 92) (n := S9 + 552) (by omega) (by omega) (Wx.drop (hC0.wf) (fun k i hk => ⟨Or.inl (Or.inl hk), ?_, fun z => ?_⟩) hLk (fun v h => by cases h) (kk a' w' o3 hV'))
    · exact (adU_old hn41 (Or.inl hk)).trans (adU_old (VL41 0) hk)
    · by_cases hk4 : k < 40
      · rw [mixL _ _ hk4, mixL _ _ hk4]
      · rw [mixR _ _ hk4, mixR _ _ hk4, fill_ne _ _ _ (fun h => VL41 i (by rw [← h.1]; exact hk))]
  have wk : wr kd = kd := wr_of (by omega) (by omega)
  refine wpk hC ⟨by show (_ : Nat) ≤ R.cells; omega, by show (_ : Nat) ≤ R.slots; omega⟩ tkL_law [206, 219] 200 ?_
  have e9 : wr 9 = 9 := rfl
  have em9 : wr (-9) = -9 := rfl
  refine ⟨fun z => ⟨fun z2 => Wx.pick [0, 1, 2, 3, 4] rfl (j219 o'), fun z2 => Wx.pick [0, 1, 2, 3, 4, 7] rfl (j206 ?_ o')⟩, fun z => ⟨fun z2 => Wx.pick [0, 1, 2, 3, 4, 7] rfl (j206 ?_ o'), fun z2 => ⟨fun z3 => Wx.pick [0, 1, 2, 3, 4] rfl (j219 o'), fun z3 => Wx.pick [0, 1, 2, 3, 4, 7] rfl (j206 ?_ o')⟩⟩⟩
  · exact hcase.resolve_left (fun h => h.2 (by rw [wk, e9] at z2; exact z2))
  · exact hcase.resolve_left (fun h => h.1 ⟨by rw [hv] at z; omega, by rw [hv, em9] at z2; exact z2⟩)
  · exact hcase.resolve_left (fun h => h.2 (by rw [wk, e9] at z3; exact z3))
end CTX
