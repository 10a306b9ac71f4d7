/-! ===== copyFrom, restart, useFrom ===== -/
def cf4 (mm : Mm) (b b' : Int) : Mm := cpM (cpM (cpM (cpM mm 21 b b') 22 b b') 23 b b') 25 b b'
def cfC (mm : Mm) (b b' : Int) : Mm := fori (fun j m => st m 24 b' j (wr (rd m 24 b j) % 2)) 10 0 (cf4 mm b b')
set_option maxRecDepth 100000 in
set_option maxHeartbeats 400000 in
theorem M_copyFrom (b b' : Int) (mm : Mm) (o : Int64)  : MetX iX3_copyFrom [xr 20 b', xr 20 b] mm o (rtv (cfC mm b b') o) := by
  refine MetX.of 0 (by decide +kernel) rfl (Nat.le_of_ble_eq_true rfl) ⟨by decide, by decide⟩ ?_
  intro p l e s m args below meth c Q V D ad A hC hN hok hF
  have hd : ∀ q, q = 12 ∨ q = 27 ∨ q = 42 ∨ q = 56 → decode iX3_copyFrom.2.1 q = .ok (.invokestatic 28, 3) := by
    intro q hq
    rcases hq with rfl | rfl | rfl | rfl <;> decide +kernel
  have hlo : nativeFrameWords "java/lang/System" "arraycopy" 5 + 11 ≤ (mrm iX3_copyFrom).locals := by decide +kernel
  have loop : ∀ (n : Nat) (j : Int) (m9 : Mm), 0 ≤ j → j + n = 10 → fori (fun j m => st m 24 b' j (wr (rd m 24 b j) % 2)) n j m9 = cfC mm b b' → Wx p l e (mrm iX3_copyFrom) s m args below meth c 0 0 Q V D ad A 3 61 [(0, xr 20 b'), (1, xr 20 b), (2, xi j)] [] m9 o := by
    intro n
    induction n with
    | zero =>
      intro j m9 j0 hj he
      refine wpx hC tkX3_copyFrom hF [61] 200 ?_
      refine ⟨fun q => ⟨rfl, he.symm, rfl⟩, fun q => ?_⟩
      rw [show wr 10 = 10 from rfl, wr_of (by omega) (by omega)] at q; omega
    | succ n ih =>
      intro j m9 j0 hj he
      refine wpx hC tkX3_copyFrom hF [61] 200 ?_
      refine ⟨fun q => ?_, fun q => ⟨⟨j0, by show _ < (10 : Int); omega⟩, ⟨j0, by show _ < (10 : Int); omega⟩, ?_⟩⟩
      · rw [show wr 10 = 10 from rfl, wr_of (by omega) (by omega)] at q; omega
      exact ih (j + 1) _ (by omega) (by omega) he
  refine wpx hC tkX3_copyFrom hF [] 200 ?_
  refine Wx.copy (k := 21) (i := b) (i' := b') hC link_copy hlo (hd _ (by decide)) rfl rfl ?_
  refine wpx hC tkX3_copyFrom hF [] 200 ?_
  refine Wx.copy (k := 22) (i := b) (i' := b') hC link_copy hlo (hd _ (by decide)) rfl rfl ?_
  refine wpx hC tkX3_copyFrom hF [] 200 ?_
  refine Wx.copy (k := 23) (i := b) (i' := b') hC link_copy hlo (hd _ (by decide)) rfl rfl ?_
  refine wpx hC tkX3_copyFrom hF [] 200 ?_
  refine Wx.copy (k := 25) (i := b) (i' := b') hC link_copy hlo (hd _ (by decide)) rfl rfl ?_
  refine wpx hC tkX3_copyFrom hF [61] 200 ?_
  exact loop 10 0 _ (by decide) (by decide) rfl
def rs1 (mm : Mm) (x n : Int) : Mm := st (st (st mm 27 x 1 (wr 0)) 26 x 8 (wr (n * 24))) 26 x 9 (wr 0)
def resC (mm : Mm) (x n b : Int) : Mm := rs1 (cfC mm b (30 + x)) x n
set_option maxRecDepth 100000 in
set_option maxHeartbeats 400000 in
theorem M_restart (x n b : Int) (mm : Mm) (o : Int64)  : MetX iX4_restart [xr 26 x, xi n, xr 20 b] mm o (rtv (resC mm x n b) o) := by
  refine MetX.of 0 (by decide +kernel) rfl (Nat.le_of_ble_eq_true rfl) ⟨by decide, by decide⟩ ?_
  intro p l e s m args below meth c Q V D ad A hC hN hok hF
  refine wpx hC tkX4_restart hF [] 200 ?_
  refine Wx.callV (x := iX4_restart) (y := iX3_copyFrom) (k := 20) (avs := [_]) (rest := []) hC hN tkX4_restart rfl rfl kX3_copyFrom rfl (M_copyFrom _ _ _ _) ⟨rfl, rfl⟩ rfl (Nat.le_of_ble_eq_true rfl) (by exact nol rfl) ?_
  rintro r mm' o' ⟨rfl, rfl, rfl⟩
  refine wpx hC tkX4_restart hF [] 200 ?_
  exact ⟨rfl, rfl, rfl⟩
noncomputable def ufL (i ins : Int) : Nat → Int → Mm → Mm
  | 0, _, m => m
  | n + 1, j, m => pif (rd m 15 i j = 0) (ufL i ins n (j + 1) (st m 14 i j (wr ins))) m
noncomputable def ufC (mm : Mm) (i n ins : Int) : Mm := ufL i ins (29 - n).toNat (n + 1) (st (st mm 15 i n (wr 1 % 2)) 14 i n (wr ins))
set_option maxRecDepth 100000 in
set_option maxHeartbeats 400000 in
theorem M_useFrom (i n ins : Int) (mm : Mm) (o : Int64) (n0 : 0 ≤ n) (n1 : n < 30) : MetX iX7_useFrom [xr 11 i, xi n, xi ins] mm o (rtv (ufC mm i n ins) o) := by
  refine MetX.of 0 (by decide +kernel) rfl (Nat.le_of_ble_eq_true rfl) ⟨by decide, by decide⟩ ?_
  intro p l e s m args below meth c Q V D ad A hC hN hok hF
  have loop : ∀ (k : Nat) (j : Int) (m9 : Mm), 0 ≤ j → j + k = 30 → ufL i ins k j m9 = ufC mm i n ins → Wx p l e (mrm iX7_useFrom) s m args below meth c 0 0 Q V D ad A 4 18 [(0, xr 11 i), (1, xi n), (2, xi ins), (3, xi j)] [] m9 o := by
    intro k
    induction k with
    | zero =>
      intro j m9 j0 hj he
      refine wpx hC tkX7_useFrom hF [18] 200 ?_
      refine ⟨fun q => ⟨rfl, he.symm, rfl⟩, fun q => ?_⟩
      rw [show wr 30 = 30 from rfl, wr_of (by omega) (by omega)] at q; omega
    | succ k ih =>
      intro j m9 j0 hj he
      refine wpx hC tkX7_useFrom hF [18] 200 ?_
      refine ⟨fun q => ?_, fun q => ⟨⟨j0, by show _ < (30 : Int); omega⟩, fun q2 => ?_, fun q2 => ⟨⟨j0, by show _ < (30 : Int); omega⟩, ?_⟩⟩⟩
      · rw [show wr 30 = 30 from rfl, wr_of (by omega) (by omega)] at q; omega
      · rw [wr_rd] at q2
        exact ⟨rfl, by rw [← he]; exact pif_f q2, rfl⟩
      · rw [wr_rd] at q2
        exact ih (j + 1) _ (by omega) (by omega) (by rw [← he]; exact (pif_t q2).symm)
  refine wpx hC tkX7_useFrom hF [18] 200 ?_
  refine ⟨⟨n0, n1⟩, ⟨n0, n1⟩, ?_⟩
  exact loop (29 - n).toNat (n + 1) _ (by omega) (by omega) rfl
