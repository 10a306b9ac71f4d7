/-! ===== the law, IV ===== -/
theorem xne : ¬ xIa = xIx ∧ ¬ xIs = xIx ∧ ¬ xIs = xIa := by decide
theorem cdN_ix {c : Option String} {v : Int} (h : c = some xIx) : cdN c v = -2 := by
  subst h
  show (if xIx = xIx then (-2 : Int) else if xIx = xIa then -3 else -4) = -2
  rw [if_pos rfl]
theorem cdN_ia {c : Option String} {v : Int} (h : c = some xIa) : cdN c v = -3 := by
  subst h
  show (if xIa = xIx then (-2 : Int) else if xIa = xIa then -3 else -4) = -3
  rw [if_neg xne.1, if_pos rfl]
theorem cdN_is {c : Option String} {v : Int} (h : c = some xIs) : cdN c v = -4 := by
  subst h
  show (if xIs = xIx then (-2 : Int) else if xIs = xIa then -3 else -4) = -4
  rw [if_neg xne.2.1, if_neg xne.2.2]
theorem pif_s {c : Option String} {E : String} (h : c = some E) (f g : Mm) : pif (c = none) f g = g := pif_f (fun q => by rw [h] at q; cases q)
theorem ck_s {a b : Option String} {E : String} (h : a = some E) : ck a b = some E := by subst h; rfl
theorem ck_2 {a b : Option String} {E : String} (h : a = none) (g : b = some E) : ck a b = some E := by subst h; exact g
theorem ix_s {z n : Int} (h : z < 0 ∨ n ≤ z) : ixC z n = some xIx := if_neg (fun q => by omega)
theorem rg_s {z a b : Int} (h : z < a ∨ b < z) : rgC z a b = some xIa := if_neg (fun q => by omega)
section CTX
variable {p : Program} {l : Launch} {e : Env} {s : State} {m : MethodId} {below : List Frame} {meth : Method} {c : Code} {D : DD} {ad : Nat → Int → Nat} {N : Nat} {xs : Nat → Int32} {b : Nat} {R : Room}
set_option maxRecDepth 100000 in
set_option maxHeartbeats 3200000 in
theorem law_3 {C9 S9 : Nat} (hRR : R = room_1) (hL : LC R p l s m b meth c D ad N xs) (hc : C9 + 9100 ≤ R.cells ∧ S9 + 54600 ≤ R.slots) {a w : Mm} (hV : LVR 3 a w) (o : Int64) : Wx p l e R s m #[Value.ref b] below meth c C9 S9 (lw_Z below #[Value.ref b] s) VL D ad (fun q => s.heap.size ≤ q) 9 246 [(0, xr 0 0), (1, xr 1 0), (2, xr 40 0)] [] (mix a w) o := by
  obtain ⟨hC, hN, hT, hR, hst, hX, hb, hN9, hret, hb0⟩ := id hL
  obtain ⟨hJ, ⟨n0, n1, n2⟩, h6, h7, h8⟩ := id hV
  have hI := hJ.1.1.1
  refine wpk hC ⟨by show (_ : Nat) ≤ R.cells; omega, by show (_ : Nat) ≤ R.slots; omega⟩ tkL_law [] 200 ?_
  refine Wx.cT (y := iX10_run) (k := 1) (avs := [_]) (rest := []) hC hN hT hst tkL_law rfl rfl kX10_run (rm8 hRR rfl) rfl (M_run a o 48 rfl hI hJ.1.1.2.1 hJ.2.2.1 hJ.2.2.2) (noT (rg_n (by decide) (by decide))) rfl (Nat.le_of_ble_eq_true rfl) rfl ⟨by show (_ : Nat) ≤ R.cells; omega, by show (_ : Nat) ≤ R.slots; omega⟩ ?_
  rintro r a' o' ⟨-, rfl, rfl, rfl⟩
  obtain ⟨g1, -, g3⟩ := JV_runM (48 : Int).toNat hJ
  have gn : 1 ≤ rd (runM (48 : Int).toNat a) 26 0 8 := run_now hJ 47
  generalize runM (48 : Int).toNat a = a1 at *
  have hV1 : LVR 3 a1 w := LV_keep hV g1 (fun j => g3 _ _ _ (by decide) (by decide))
  obtain ⟨-, ⟨n0, n1, n2⟩, h6, h7, h8⟩ := id hV1
  refine wpk hC ⟨by show (_ : Nat) ≤ R.cells; omega, by show (_ : Nat) ≤ R.slots; omega⟩ tkL_law [366] 200 ?_
  refine ⟨by decide, fun q => ?_, fun _ => ?_⟩
  · rw [wr_rd, rd40, n0, show wr 3 = 3 from rfl] at q
    omega
  refine Wx.cell hC hN hX hb (Or.inl ⟨rfl, rfl⟩) hN9 tkL_law rfl rfl rfl (rm8 hRR rfl) (by decide) (by decide) (Nat.le_of_ble_eq_true rfl) ⟨by show (_ : Nat) ≤ R.cells; omega, by show (_ : Nat) ≤ R.slots; omega⟩ ?_
  generalize cellZ N xs _ = y
  refine wpk hC ⟨by show (_ : Nat) ≤ R.cells; omega, by show (_ : Nat) ≤ R.slots; omega⟩ tkL_law [] 200 ?_
  refine Wx.sN (y := iL_asks) (k := 9000) (avs := [_, _, _]) (rest := []) hC hN hT hR hst tkL_law rfl rfl rfl kL_asks (rm8 hRR rfl) (M_asks _ y g1 n1 h7.2) rfl (Nat.le_of_ble_eq_true rfl) rfl ⟨by show (_ : Nat) ≤ R.cells; omega, by show (_ : Nat) ≤ R.slots; omega⟩ ?_
  rintro r mm' o' ⟨rfl, a2, rfl, hJ2, h5, h26⟩
  have hI2 := hJ2.1.1.1
  rw [← h26] at gn
  refine wpk hC ⟨by show (_ : Nat) ≤ R.cells; omega, by show (_ : Nat) ≤ R.slots; omega⟩ tkL_law [366] 200 ?_
  refine ⟨fun q => absurd q (by decide), fun _ => ?_⟩
  refine Wx.cW (y := iL_targets) (k := 10) (avs := [_, _]) (rest := []) hC hN hT hR hst tkL_law rfl rfl rfl kL_targets (rm8 hRR rfl) (W_targets a2 o' (-1) 0 rfl hI2) rfl (Nat.le_of_ble_eq_true rfl) rfl ⟨by show (_ : Nat) ≤ R.cells; omega, by show (_ : Nat) ≤ R.slots; omega⟩ ?_
  rintro r a' o' ⟨rfl, rfl⟩
  have c1 : ∀ (B : Option String), ck (ixC (-1) (rd a2 5 0 6)) B = some xIx := fun B => ck_s (ix_s (Or.inl (by decide)))
  rw [cdN_ix (c1 _), pif_s (c1 _)]
  refine wpk hC ⟨by show (_ : Nat) ≤ R.cells; omega, by show (_ : Nat) ≤ R.slots; omega⟩ tkL_law [366] 200 ?_
  refine ⟨fun q => absurd rfl q, fun _ => ?_⟩
  refine Wx.cW (y := iL_rows) (k := 6) (avs := [_, _, _, _]) (rest := []) hC hN hT hR hst tkL_law rfl rfl rfl kL_rows (rm8 hRR rfl) (W_rows a2 o' 0 30 1 0 rfl rfl rfl rfl hI2) rfl (Nat.le_of_ble_eq_true rfl) rfl ⟨by show (_ : Nat) ≤ R.cells; omega, by show (_ : Nat) ≤ R.slots; omega⟩ ?_
  rintro r a' o' ⟨rfl, rfl⟩
  have h27 : 3 ≤ rd a2 5 0 7 := by rw [h5]; exact h7.1
  have c2 : ∀ (B : Option String), ck (ixC 0 (rd a2 5 0 7)) (ck (ixC 30 30) B) = some xIx := fun B => ck_2 (ix_n (by decide) (by omega)) (ck_s (ix_s (Or.inr (by decide))))
  rw [cdN_ix (c2 _), pif_s (c2 _)]
  refine wpk hC ⟨by show (_ : Nat) ≤ R.cells; omega, by show (_ : Nat) ≤ R.slots; omega⟩ tkL_law [366] 200 ?_
  refine ⟨fun q => absurd rfl q, fun _ => ?_⟩
  refine Wx.cW (y := iL_rows) (k := 6) (avs := [_, _, _, _]) (rest := []) hC hN hT hR hst tkL_law rfl rfl rfl kL_rows (rm8 hRR rfl) (W_rows a2 o' 0 0 31 0 rfl rfl rfl rfl hI2) rfl (Nat.le_of_ble_eq_true rfl) rfl ⟨by show (_ : Nat) ≤ R.cells; omega, by show (_ : Nat) ≤ R.slots; omega⟩ ?_
  rintro r a' o' ⟨rfl, rfl⟩
  have c3 : ∀ (B : Option String), ck (ixC 0 (rd a2 5 0 7)) (ck (ixC 0 30) (ck (rgC 31 1 30) B)) = some xIa := fun B => ck_2 (ix_n (by decide) (by omega)) (ck_2 (ix_n (by decide) (by decide)) (ck_s (rg_s (Or.inr (by decide)))))
  rw [cdN_ia (c3 _), pif_s (c3 _)]
  refine wpk hC ⟨by show (_ : Nat) ≤ R.cells; omega, by show (_ : Nat) ≤ R.slots; omega⟩ tkL_law [366] 200 ?_
  refine ⟨fun q => absurd rfl q, fun _ => ?_⟩
  refine Wx.cW (y := iL_replays) (k := 2) (avs := [_]) (rest := []) hC hN hT hR hst tkL_law rfl rfl rfl kL_replays (rm8 hRR rfl) (W_replays a2 o' 30 rfl hI2 (ID1_IC hJ2.2.1)) rfl (Nat.le_of_ble_eq_true rfl) rfl ⟨by show (_ : Nat) ≤ R.cells; omega, by show (_ : Nat) ≤ R.slots; omega⟩ ?_
  rintro r a' o' ⟨rfl, rfl⟩
  have c4 : ∀ (B : Option String), ck (ixC 30 30) B = some xIx := fun B => ck_s (ix_s (Or.inr (by decide)))
  rw [cdN_ix (c4 _), pif_s (c4 _)]
  refine wpk hC ⟨by show (_ : Nat) ≤ R.cells; omega, by show (_ : Nat) ≤ R.slots; omega⟩ tkL_law [366] 200 ?_
  refine ⟨fun q => absurd rfl q, fun _ => ?_⟩
  refine Wx.cW (y := iL_mounts) (k := 4) (avs := [_, _, _]) (rest := []) hC hN hT hR hst tkL_law rfl rfl rfl kL_mounts (rm8 hRR rfl) (W_mounts a2 o' 3 0 0 rfl rfl rfl) rfl (Nat.le_of_ble_eq_true rfl) rfl ⟨by show (_ : Nat) ≤ R.cells; omega, by show (_ : Nat) ≤ R.slots; omega⟩ ?_
  rintro r a' o' ⟨rfl, rfl⟩
  have c5 : ∀ (B : Option String), ck (ixC 3 3) B = some xIx := fun B => ck_s (ix_s (Or.inr (by decide)))
  rw [cdN_ix (c5 _), pif_s (c5 _)]
  refine wpk hC ⟨by show (_ : Nat) ≤ R.cells; omega, by show (_ : Nat) ≤ R.slots; omega⟩ tkL_law [366] 200 ?_
  refine ⟨fun q => absurd rfl q, fun _ => ?_⟩
  refine Wx.cW (y := iL_mounts) (k := 4) (avs := [_, _, _]) (rest := []) hC hN hT hR hst tkL_law rfl rfl rfl kL_mounts (rm8 hRR rfl) (W_mounts a2 o' 0 0 0 rfl rfl rfl) rfl (Nat.le_of_ble_eq_true rfl) rfl ⟨by show (_ : Nat) ≤ R.cells; omega, by show (_ : Nat) ≤ R.slots; omega⟩ ?_
  rintro r a' o' ⟨rfl, rfl⟩
  have c6 : ck (ixC 0 3) (ck (ixC 0 30) (ck (ixC 0 3) (stC (bz (rd a2 26 0 8 ≤ 0 * 24))))) = some xIs := ck_2 (ix_n (by decide) (by decide)) (ck_2 (ix_n (by decide) (by decide)) (ck_2 (ix_n (by decide) (by decide)) (by rw [bz_f (by omega)]; rfl)))
  rw [cdN_is c6, pif_s c6]
  refine wpk hC ⟨by show (_ : Nat) ≤ R.cells; omega, by show (_ : Nat) ≤ R.slots; omega⟩ tkL_law [366] 200 ?_
  refine ⟨fun q => absurd rfl q, fun _ => ?_⟩
  refine Wx.cW (y := iL_alarms) (k := 11) (avs := [_, _, _, _, _, _]) (rest := []) hC hN hT hR hst tkL_law rfl rfl rfl kL_alarms (rm8 hRR rfl) (W_alarms a2 o' 0 0 0 0 0 1 rfl rfl rfl rfl rfl hI2) rfl (Nat.le_of_ble_eq_true rfl) rfl ⟨by show (_ : Nat) ≤ R.cells; omega, by show (_ : Nat) ≤ R.slots; omega⟩ ?_
  rintro r a' o' ⟨rfl, rfl⟩
  have c7 : ∀ (B : Option String), ck (ixC 0 4) (ck (ixC 0 3) (ck (ixC 0 30) (ck (ixC 0 24) (ck (ixC 0 24) (ck (rgC 0 1 9) B))))) = some xIa := fun B => ck_2 (ix_n (by decide) (by decide)) (ck_2 (ix_n (by decide) (by decide)) (ck_2 (ix_n (by decide) (by decide)) (ck_2 (ix_n (by decide) (by decide)) (ck_2 (ix_n (by decide) (by decide)) (ck_s (rg_s (Or.inl (by decide))))))))
  rw [cdN_ia (c7 _), pif_s (c7 _)]
  refine wp_ok (rt := 1) (stops := [366]) (F := fun r _ _ => r = some (xi 1)) hC ⟨by show (_ : Nat) ≤ R.cells; omega, by show (_ : Nat) ≤ R.slots; omega⟩ tkL_law (fun _ _ _ _ _ h => h) (fun r mm9 o9 hF => law_F hRR hL ⟨by show (_ : Nat) ≤ R.cells; omega, by show (_ : Nat) ≤ R.slots; omega⟩ r mm9 o9 hF) 200 357 [(0, xr 0 0), (1, xr 1 0), (2, xr 40 0)] _ _ _ ?_
  exact ⟨fun q => absurd rfl q, fun _ => rfl⟩
end CTX
