/-! ===== the law, V: from its first loop on ===== -/
section CTX
variable {p : Program} {l : Launch} {e : Env} {s : State} {m : MethodId} {below : List Frame} {meth : Method} {c : Code} {D : DD} {ad : Nat → Int → Nat} {N : Nat} {xs : Nat → Int32} {b : Nat} {R : Room}
set_option maxRecDepth 100000 in
set_option maxHeartbeats 1600000 in
theorem law_all {c0 s0 : Nat} (hRR : R = room_1) (hL : LC R p l s m b meth c D ad N xs) (hc : c0 + 266763 ≤ R.cells ∧ s0 + 1600578 ≤ R.slots) {a w : Mm} (h0 : L0 ((0 : Nat) : Int) a w) (o : Int64) : Wx p l e R s m #[Value.ref b] below meth c c0 s0 (lw_Z below #[Value.ref b] s) VL D ad (fun q => s.heap.size ≤ q) 9 15 [(0, xr 0 0), (1, xr 1 0), (2, xr 40 0), (3, xi ((0 : Nat) : Int))] [] (mix a w) o := by
  refine Wx.widen (k := c0 + 21 * 0) (n := s0 + 126 * 0) (by omega) (by omega) (law_1 hRR hL ⟨by omega, by omega⟩ (fun a w o hV => ?_) 3 0 a w o rfl h0)
  obtain ⟨hC, -⟩ := id hL
  refine wpk hC ⟨by show (_ : Nat) ≤ R.cells; omega, by show (_ : Nat) ≤ R.slots; omega⟩ tkL_law [130] 200 ?_
  refine Wx.widen (k := c0 + 63 + 9200 * 0) (n := s0 + 378 + 55200 * 0) (by omega) (by omega) (law_2 hRR hL ⟨by omega, by omega⟩ (fun a w o hV => ?_) 28 0 a w o rfl hV)
  exact law_3 hRR hL ⟨by omega, by omega⟩ hV o
end CTX
