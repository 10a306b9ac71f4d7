/-! ===== the law, III ===== -/
section CTX
variable {p : Program} {l : Launch} {e : Env} {s : State} {m : MethodId} {below : List Frame} {meth : Method} {c : Code} {D : DD} {ad : Nat → Int → Nat} {N : Nat} {xs : Nat → Int32} {b : Nat} {R : Room}
set_option maxRecDepth 100000 in
set_option maxHeartbeats 1600000 in
theorem law_2 {c2 s2 : Nat} (hRR : R = room_1) (hL : LC R p l s m b meth c D ad N xs) (hc : c2 + 257600 ≤ R.cells ∧ s2 + 1545600 ≤ R.slots) (kk : ∀ (a w : Mm) (o : Int64), LVR 3 a w → Wx p l e R s m #[Value.ref b] below meth c (c2 + 257600) (s2 + 1545600) (lw_Z below #[Value.ref b] s) VL D ad (fun q => s.heap.size ≤ q) 9 246 [(0, xr 0 0), (1, xr 1 0), (2, xr 40 0)] [] (mix a w) o) :
    ∀ (n i : Nat) (a w : Mm) (o : Int64), i + n = 28 → LVR 3 a w → Wx p l e R s m #[Value.ref b] below meth c (c2 + 9200 * i) (s2 + 55200 * i) (lw_Z below #[Value.ref b] s) VL D ad (fun q => s.heap.size ≤ q) 9 130 [(0, xr 0 0), (1, xr 1 0), (2, xr 40 0), (3, xi i)] [] (mix a w) o := by
  obtain ⟨hC, hN, hT, hR, hst, hX, hb, hN9, hret, hb0⟩ := id hL
  intro n
  induction n with
  | zero =>
    intro i a w o hi h0
    obtain rfl : i = 28 := by omega
    refine wpk hC ⟨by show (_ : Nat) ≤ R.cells; omega, by show (_ : Nat) ≤ R.slots; omega⟩ tkL_law [246] 200 ?_
    refine ⟨fun _ => Wx.widen (by omega) (by omega) (Wx.pick [0, 1, 2] rfl (kk a w o h0)), fun q => ?_⟩
    exact absurd (show wr 28 ≤ wr ((28 : Nat) : Int) by decide) q
  | succ n ih =>
    intro i a w o hi h0
    have i0 : (0 : Int) ≤ (i : Int) := by omega
    have i3 : (i : Int) < 28 := by omega
    refine wpk hC ⟨by show (_ : Nat) ≤ R.cells; omega, by show (_ : Nat) ≤ R.slots; omega⟩ tkL_law [246] 200 ?_
    refine ⟨fun q => ?_, fun _ => ?_⟩
    · rw [wr_nat (by omega), show wr 28 = 28 from rfl] at q
      omega
    refine Wx.cell hC hN hX hb (Or.inl ⟨rfl, rfl⟩) hN9 tkL_law rfl rfl rfl (rm8 hRR rfl) (by omega) (by omega) (Nat.le_of_ble_eq_true rfl) ⟨by omega, by omega⟩ ?_
    generalize cellZ N xs _ = x
    refine wpk hC ⟨by show (_ : Nat) ≤ R.cells; omega, by show (_ : Nat) ≤ R.slots; omega⟩ tkL_law [] 200 ?_
    refine Wx.cell hC hN hX hb (Or.inl ⟨rfl, rfl⟩) hN9 tkL_law rfl rfl rfl (rm8 hRR rfl) (by omega) (by omega) (Nat.le_of_ble_eq_true rfl) ⟨by omega, by omega⟩ ?_
    generalize cellZ N xs _ = y
    have l1 := low_r (jshr x 3) (n := 15) (by decide) (by decide)
    refine wpk hC ⟨by show (_ : Nat) ≤ R.cells; omega, by show (_ : Nat) ≤ R.slots; omega⟩ tkL_law [] 200 ?_
    refine Wx.sT (y := iL_low) (k := 0) (avs := [_, _]) (rest := []) hC hN hT hst tkL_law rfl rfl rfl kL_low (rm12 hRR rfl) (M_low _ _ _ _ (by decide)) (fun _ _ _ h => h) rfl (Nat.le_of_ble_eq_true rfl) rfl rfl ⟨by show (_ : Nat) ≤ R.cells; omega, by show (_ : Nat) ≤ R.slots; omega⟩ ?_
    rintro r mm' o' ⟨rfl, rfl, rfl⟩
    refine wpk hC ⟨by show (_ : Nat) ≤ R.cells; omega, by show (_ : Nat) ≤ R.slots; omega⟩ tkL_law [] 200 ?_
    refine Wx.tell (j := 0) (rest := []) hC hN hT hR hst (by decide) (by decide) h0.1.1.1.1 (Int.le_of_eq h0.2.1.2.1) (VL41 0) hb0 tkL_law rfl rfl rfl (rm8 hRR rfl) (Nat.le_of_ble_eq_true rfl) ⟨by show (_ : Nat) ≤ R.cells; omega, by show (_ : Nat) ≤ R.slots; omega⟩ (fun q2 f2 o2 hq2 hfr2 hf2 => ?_)
    refine law_mid (C9 := c2 + 9200 * i + 0 + 80) (S9 := s2 + 55200 * i + 6 * 0 + 6 * 80) hRR hL ⟨by omega, by omega⟩ h0 l1.1 l1.2 hq2 hfr2 hf2 (fun a' w' o' h1 => ?_) o2
    refine law_tail (C9 := c2 + 9200 * i + 0 + 80 + 92) (S9 := s2 + 55200 * i + 6 * 0 + 6 * 80 + 552) hRR hL ⟨by omega, by omega⟩ h1 (fun a'' o'' h2 => ?_) o'
    refine wpk hC ⟨by show (_ : Nat) ≤ R.cells; omega, by show (_ : Nat) ≤ R.slots; omega⟩ tkL_law [130] 200 ?_
    have h9 := ih (i + 1) a'' w' o'' (by omega) h2
    have h8 : Wx p l e R s m #[Value.ref b] below meth c (c2 + 9200 * i + 0 + 80 + 92 + 9000) (s2 + 55200 * i + 6 * 0 + 6 * 80 + 552 + 54000) (lw_Z below #[Value.ref b] s) VL D ad (fun q => s.heap.size ≤ q) 9 130 [(0, xr 0 0), (1, xr 1 0), (2, xr 40 0), (3, xi ((i : Int) + 1))] [] (mix a'' w') o'' :=
      Wx.widen (k := c2 + 9200 * (i + 1)) (n := s2 + 55200 * (i + 1)) (by omega) (by omega) h9
    exact Wx.pick [0, 1, 2, 3] rfl h8
end CTX
