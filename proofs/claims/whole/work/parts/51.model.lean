/-! ===== the model, XXII: kept and given back ===== -/
def kS (z : Bool) (k : Nat) (j t : Int) (m : Mm) : Mm := st m 90 0 j (wr (bif z then rd m 90 0 j else rd m k 0 t))
def kL (k : Nat) (j t : Int) (m : Mm) : Mm := st m k 0 t (wr (rd m 90 0 j))
def kq1 (z : Bool) (t : Int) (m : Mm) : Mm := kS z 85 (120 + t) t (kS z 84 (96 + t) t (kS z 83 (72 + t) t (kS z 74 (48 + t) t (kS z 73 (24 + t) t (kS z 72 t t m)))))
def kq2 (t : Int) (m : Mm) : Mm := kL 85 (120 + t) t (kL 84 (96 + t) t (kL 83 (72 + t) t (kL 74 (48 + t) t (kL 73 (24 + t) t (kL 72 t t m)))))
def kqA (z : Bool) (t : Int) (m : Mm) : Mm := kL 75 (144 + t) t (kS z 75 (144 + t) t m)
def kqC (z : Bool) (t : Int) (m : Mm) : Mm := kL 77 (158 + t) t (kL 76 (154 + t) t (kS z 77 (158 + t) t (kS z 76 (154 + t) t m)))
def kq3 (z : Bool) (t : Int) (m : Mm) : Mm := kS z 82 (174 + t) t (kS z 81 (171 + t) t (kS z 80 (168 + t) t (kS z 79 (165 + t) t (kS z 78 (162 + t) t m))))
def kq4 (t : Int) (m : Mm) : Mm := kL 82 (174 + t) t (kL 81 (171 + t) t (kL 80 (168 + t) t (kL 79 (165 + t) t (kL 78 (162 + t) t m))))
noncomputable def kqM (z : Bool) (mm : Mm) : Mm := fori (fun t m => kq4 t (kq3 z t m)) 3 0 (fori (kqC z) 4 0 (fori (kqA z) 10 0 (fori (fun t m => kq2 t (kq1 z t m)) 24 0 mm)))
theorem br0 {X Y : Prop} (h : X) : (wr 0 = 0 → X) ∧ (¬ wr 0 = 0 → Y) := ⟨fun _ => h, fun q => absurd rfl q⟩
theorem br1 {X Y : Prop} (h : Y) : (wr 1 = 0 → X) ∧ (¬ wr 1 = 0 → Y) := ⟨fun q => absurd q (by decide), fun _ => h⟩
set_option maxRecDepth 100000 in
set_option maxHeartbeats 400000 in
theorem M_keep0  (mm : Mm) (o : Int64)  : MetX iX11_keep [xr 40 0, xi 0] mm o (rtv (kqM (Nat.beq 0 1) mm) o) := by
  refine MetX.of 0 (by decide +kernel) rfl (Nat.le_of_ble_eq_true rfl) ⟨by decide, by decide⟩ ?_
  intro p l e s m args below meth c Q V D ad A hC hN hok hF
  have l3 : ∀ (k : Nat) (t : Int) (m9 : Mm), 0 ≤ t → t + k = 3 → fori (fun t m => kq4 t (kq3 (Nat.beq 0 1) t m)) k t m9 = kqM (Nat.beq 0 1) mm → Wx p l e (mrm iX11_keep) s m args below meth c 0 0 Q V D ad A 3 457 [(0, xr 40 0), (1, xi 0), (2, xi t)] [] m9 o := by
    intro k
    induction k with
    | zero =>
      intro t m9 t0 ht he
      refine wpx hC tkX11_keep hF [457] 200 ?_
      refine ⟨fun _ => ⟨rfl, he.symm, rfl⟩, fun q => ?_⟩
      rw [show wr 3 = 3 from rfl, wr_of (by omega) (by omega)] at q; omega
    | succ k ih =>
      intro t m9 t0 ht he
      have t2 : 0 ≤ t ∧ t < 3 := by omega
      have j1 : 0 ≤ 162 + t ∧ 162 + t < 200 := by omega
      have j2 : 0 ≤ 165 + t ∧ 165 + t < 200 := by omega
      have j3 : 0 ≤ 168 + t ∧ 168 + t < 200 := by omega
      have j4 : 0 ≤ 171 + t ∧ 171 + t < 200 := by omega
      have j5 : 0 ≤ 174 + t ∧ 174 + t < 200 := by omega
      refine wpx hC tkX11_keep hF [457] 200 ?_
      refine ⟨fun q => ?_, fun _ => br0 ⟨by first | exact t2 | exact j1, j1, br0 ⟨by first | exact t2 | exact j2, j2, br0 ⟨by first | exact t2 | exact j3, j3, br0 ⟨by first | exact t2 | exact j4, j4, br0 ⟨by first | exact t2 | exact j5, j5, j1, t2, j2, t2, j3, t2, j4, t2, j5, t2, ih (t + 1) (kq4 t (kq3 (Nat.beq 0 1) t m9)) (by omega) (by omega) he⟩⟩⟩⟩⟩⟩
      rw [show wr 3 = 3 from rfl, wr_of (by omega) (by omega)] at q; omega
  have l2 : ∀ (k : Nat) (t : Int) (m9 : Mm), 0 ≤ t → t + k = 4 → fori (fun t m => kq4 t (kq3 (Nat.beq 0 1) t m)) 3 0 (fori (kqC (Nat.beq 0 1)) k t m9) = kqM (Nat.beq 0 1) mm → Wx p l e (mrm iX11_keep) s m args below meth c 0 0 Q V D ad A 3 346 [(0, xr 40 0), (1, xi 0), (2, xi t)] [] m9 o := by
    intro k
    induction k with
    | zero =>
      intro t m9 t0 ht he
      refine wpx hC tkX11_keep hF [346, 457] 200 ?_
      refine ⟨fun _ => l3 3 0 m9 (by decide) (by decide) he, fun q => ?_⟩
      rw [show wr 4 = 4 from rfl, wr_of (by omega) (by omega)] at q; omega
    | succ k ih =>
      intro t m9 t0 ht he
      have t2 : 0 ≤ t ∧ t < 4 := by omega
      have j1 : 0 ≤ 154 + t ∧ 154 + t < 200 := by omega
      have j2 : 0 ≤ 158 + t ∧ 158 + t < 200 := by omega
      refine wpx hC tkX11_keep hF [346] 200 ?_
      refine ⟨fun q => ?_, fun _ => br0 ⟨by first | exact t2 | exact j1, j1, br0 ⟨by first | exact t2 | exact j2, j2, j1, t2, j2, t2, ih (t + 1) (kqC (Nat.beq 0 1) t m9) (by omega) (by omega) he⟩⟩⟩
      rw [show wr 4 = 4 from rfl, wr_of (by omega) (by omega)] at q; omega
  have l1 : ∀ (k : Nat) (t : Int) (m9 : Mm), 0 ≤ t → t + k = 10 → fori (fun t m => kq4 t (kq3 (Nat.beq 0 1) t m)) 3 0 (fori (kqC (Nat.beq 0 1)) 4 0 (fori (kqA (Nat.beq 0 1)) k t m9)) = kqM (Nat.beq 0 1) mm → Wx p l e (mrm iX11_keep) s m args below meth c 0 0 Q V D ad A 3 283 [(0, xr 40 0), (1, xi 0), (2, xi t)] [] m9 o := by
    intro k
    induction k with
    | zero =>
      intro t m9 t0 ht he
      refine wpx hC tkX11_keep hF [283, 346] 200 ?_
      refine ⟨fun _ => l2 4 0 m9 (by decide) (by decide) he, fun q => ?_⟩
      rw [show wr 10 = 10 from rfl, wr_of (by omega) (by omega)] at q; omega
    | succ k ih =>
      intro t m9 t0 ht he
      have t2 : 0 ≤ t ∧ t < 10 := by omega
      have j1 : 0 ≤ 144 + t ∧ 144 + t < 200 := by omega
      refine wpx hC tkX11_keep hF [283] 200 ?_
      refine ⟨fun q => ?_, fun _ => br0 ⟨by first | exact t2 | exact j1, j1, j1, t2, ih (t + 1) (kqA (Nat.beq 0 1) t m9) (by omega) (by omega) he⟩⟩
      rw [show wr 10 = 10 from rfl, wr_of (by omega) (by omega)] at q; omega
  have l0 : ∀ (k : Nat) (t : Int) (m9 : Mm), 0 ≤ t → t + k = 24 → fori (fun t m => kq4 t (kq3 (Nat.beq 0 1) t m)) 3 0 (fori (kqC (Nat.beq 0 1)) 4 0 (fori (kqA (Nat.beq 0 1)) 10 0 (fori (fun t m => kq2 t (kq1 (Nat.beq 0 1) t m)) k t m9))) = kqM (Nat.beq 0 1) mm → Wx p l e (mrm iX11_keep) s m args below meth c 0 0 Q V D ad A 3 2 [(0, xr 40 0), (1, xi 0), (2, xi t)] [] m9 o := by
    intro k
    induction k with
    | zero =>
      intro t m9 t0 ht he
      refine wpx hC tkX11_keep hF [2, 283] 200 ?_
      refine ⟨fun _ => l1 10 0 m9 (by decide) (by decide) he, fun q => ?_⟩
      rw [show wr 24 = 24 from rfl, wr_of (by omega) (by omega)] at q; omega
    | succ k ih =>
      intro t m9 t0 ht he
      have t2 : 0 ≤ t ∧ t < 24 := by omega
      have j1 : 0 ≤ t ∧ t < 200 := by omega
      have j2 : 0 ≤ 24 + t ∧ 24 + t < 200 := by omega
      have j3 : 0 ≤ 48 + t ∧ 48 + t < 200 := by omega
      have j4 : 0 ≤ 72 + t ∧ 72 + t < 200 := by omega
      have j5 : 0 ≤ 96 + t ∧ 96 + t < 200 := by omega
      have j6 : 0 ≤ 120 + t ∧ 120 + t < 200 := by omega
      refine wpx hC tkX11_keep hF [2] 200 ?_
      refine ⟨fun q => ?_, fun _ => br0 ⟨by first | exact t2 | exact j1, j1, br0 ⟨by first | exact t2 | exact j2, j2, br0 ⟨by first | exact t2 | exact j3, j3, br0 ⟨by first | exact t2 | exact j4, j4, br0 ⟨by first | exact t2 | exact j5, j5, br0 ⟨by first | exact t2 | exact j6, j6, j1, t2, j2, t2, j3, t2, j4, t2, j5, t2, j6, t2, ih (t + 1) (kq2 t (kq1 (Nat.beq 0 1) t m9)) (by omega) (by omega) he⟩⟩⟩⟩⟩⟩⟩
      rw [show wr 24 = 24 from rfl, wr_of (by omega) (by omega)] at q; omega
  refine wpx hC tkX11_keep hF [2] 200 ?_
  exact l0 24 0 mm (by decide) (by decide) rfl
set_option maxRecDepth 100000 in
set_option maxHeartbeats 400000 in
theorem M_keep1  (mm : Mm) (o : Int64)  : MetX iX11_keep [xr 40 0, xi 1] mm o (rtv (kqM (Nat.beq 1 1) mm) o) := by
  refine MetX.of 0 (by decide +kernel) rfl (Nat.le_of_ble_eq_true rfl) ⟨by decide, by decide⟩ ?_
  intro p l e s m args below meth c Q V D ad A hC hN hok hF
  have l3 : ∀ (k : Nat) (t : Int) (m9 : Mm), 0 ≤ t → t + k = 3 → fori (fun t m => kq4 t (kq3 (Nat.beq 1 1) t m)) k t m9 = kqM (Nat.beq 1 1) mm → Wx p l e (mrm iX11_keep) s m args below meth c 0 0 Q V D ad A 3 457 [(0, xr 40 0), (1, xi 1), (2, xi t)] [] m9 o := by
    intro k
    induction k with
    | zero =>
      intro t m9 t0 ht he
      refine wpx hC tkX11_keep hF [457] 200 ?_
      refine ⟨fun _ => ⟨rfl, he.symm, rfl⟩, fun q => ?_⟩
      rw [show wr 3 = 3 from rfl, wr_of (by omega) (by omega)] at q; omega
    | succ k ih =>
      intro t m9 t0 ht he
      have t2 : 0 ≤ t ∧ t < 3 := by omega
      have j1 : 0 ≤ 162 + t ∧ 162 + t < 200 := by omega
      have j2 : 0 ≤ 165 + t ∧ 165 + t < 200 := by omega
      have j3 : 0 ≤ 168 + t ∧ 168 + t < 200 := by omega
      have j4 : 0 ≤ 171 + t ∧ 171 + t < 200 := by omega
      have j5 : 0 ≤ 174 + t ∧ 174 + t < 200 := by omega
      refine wpx hC tkX11_keep hF [457] 200 ?_
      refine ⟨fun q => ?_, fun _ => br1 ⟨by first | exact t2 | exact j1, j1, br1 ⟨by first | exact t2 | exact j2, j2, br1 ⟨by first | exact t2 | exact j3, j3, br1 ⟨by first | exact t2 | exact j4, j4, br1 ⟨by first | exact t2 | exact j5, j5, j1, t2, j2, t2, j3, t2, j4, t2, j5, t2, ih (t + 1) (kq4 t (kq3 (Nat.beq 1 1) t m9)) (by omega) (by omega) he⟩⟩⟩⟩⟩⟩
      rw [show wr 3 = 3 from rfl, wr_of (by omega) (by omega)] at q; omega
  have l2 : ∀ (k : Nat) (t : Int) (m9 : Mm), 0 ≤ t → t + k = 4 → fori (fun t m => kq4 t (kq3 (Nat.beq 1 1) t m)) 3 0 (fori (kqC (Nat.beq 1 1)) k t m9) = kqM (Nat.beq 1 1) mm → Wx p l e (mrm iX11_keep) s m args below meth c 0 0 Q V D ad A 3 346 [(0, xr 40 0), (1, xi 1), (2, xi t)] [] m9 o := by
    intro k
    induction k with
    | zero =>
      intro t m9 t0 ht he
      refine wpx hC tkX11_keep hF [346, 457] 200 ?_
      refine ⟨fun _ => l3 3 0 m9 (by decide) (by decide) he, fun q => ?_⟩
      rw [show wr 4 = 4 from rfl, wr_of (by omega) (by omega)] at q; omega
    | succ k ih =>
      intro t m9 t0 ht he
      have t2 : 0 ≤ t ∧ t < 4 := by omega
      have j1 : 0 ≤ 154 + t ∧ 154 + t < 200 := by omega
      have j2 : 0 ≤ 158 + t ∧ 158 + t < 200 := by omega
      refine wpx hC tkX11_keep hF [346] 200 ?_
      refine ⟨fun q => ?_, fun _ => br1 ⟨by first | exact t2 | exact j1, j1, br1 ⟨by first | exact t2 | exact j2, j2, j1, t2, j2, t2, ih (t + 1) (kqC (Nat.beq 1 1) t m9) (by omega) (by omega) he⟩⟩⟩
      rw [show wr 4 = 4 from rfl, wr_of (by omega) (by omega)] at q; omega
  have l1 : ∀ (k : Nat) (t : Int) (m9 : Mm), 0 ≤ t → t + k = 10 → fori (fun t m => kq4 t (kq3 (Nat.beq 1 1) t m)) 3 0 (fori (kqC (Nat.beq 1 1)) 4 0 (fori (kqA (Nat.beq 1 1)) k t m9)) = kqM (Nat.beq 1 1) mm → Wx p l e (mrm iX11_keep) s m args below meth c 0 0 Q V D ad A 3 283 [(0, xr 40 0), (1, xi 1), (2, xi t)] [] m9 o := by
    intro k
    induction k with
    | zero =>
      intro t m9 t0 ht he
      refine wpx hC tkX11_keep hF [283, 346] 200 ?_
      refine ⟨fun _ => l2 4 0 m9 (by decide) (by decide) he, fun q => ?_⟩
      rw [show wr 10 = 10 from rfl, wr_of (by omega) (by omega)] at q; omega
    | succ k ih =>
      intro t m9 t0 ht he
      have t2 : 0 ≤ t ∧ t < 10 := by omega
      have j1 : 0 ≤ 144 + t ∧ 144 + t < 200 := by omega
      refine wpx hC tkX11_keep hF [283] 200 ?_
      refine ⟨fun q => ?_, fun _ => br1 ⟨by first | exact t2 | exact j1, j1, j1, t2, ih (t + 1) (kqA (Nat.beq 1 1) t m9) (by omega) (by omega) he⟩⟩
      rw [show wr 10 = 10 from rfl, wr_of (by omega) (by omega)] at q; omega
  have l0 : ∀ (k : Nat) (t : Int) (m9 : Mm), 0 ≤ t → t + k = 24 → fori (fun t m => kq4 t (kq3 (Nat.beq 1 1) t m)) 3 0 (fori (kqC (Nat.beq 1 1)) 4 0 (fori (kqA (Nat.beq 1 1)) 10 0 (fori (fun t m => kq2 t (kq1 (Nat.beq 1 1) t m)) k t m9))) = kqM (Nat.beq 1 1) mm → Wx p l e (mrm iX11_keep) s m args below meth c 0 0 Q V D ad A 3 2 [(0, xr 40 0), (1, xi 1), (2, xi t)] [] m9 o := by
    intro k
    induction k with
    | zero =>
      intro t m9 t0 ht he
      refine wpx hC tkX11_keep hF [2, 283] 200 ?_
      refine ⟨fun _ => l1 10 0 m9 (by decide) (by decide) he, fun q => ?_⟩
      rw [show wr 24 = 24 from rfl, wr_of (by omega) (by omega)] at q; omega
    | succ k ih =>
      intro t m9 t0 ht he
      have t2 : 0 ≤ t ∧ t < 24 := by omega
      have j1 : 0 ≤ t ∧ t < 200 := by omega
      have j2 : 0 ≤ 24 + t ∧ 24 + t < 200 := by omega
      have j3 : 0 ≤ 48 + t ∧ 48 + t < 200 := by omega
      have j4 : 0 ≤ 72 + t ∧ 72 + t < 200 := by omega
      have j5 : 0 ≤ 96 + t ∧ 96 + t < 200 := by omega
      have j6 : 0 ≤ 120 + t ∧ 120 + t < 200 := by omega
      refine wpx hC tkX11_keep hF [2] 200 ?_
      refine ⟨fun q => ?_, fun _ => br1 ⟨by first | exact t2 | exact j1, j1, br1 ⟨by first | exact t2 | exact j2, j2, br1 ⟨by first | exact t2 | exact j3, j3, br1 ⟨by first | exact t2 | exact j4, j4, br1 ⟨by first | exact t2 | exact j5, j5, br1 ⟨by first | exact t2 | exact j6, j6, j1, t2, j2, t2, j3, t2, j4, t2, j5, t2, j6, t2, ih (t + 1) (kq2 t (kq1 (Nat.beq 1 1) t m9)) (by omega) (by omega) he⟩⟩⟩⟩⟩⟩⟩
      rw [show wr 24 = 24 from rfl, wr_of (by omega) (by omega)] at q; omega
  refine wpx hC tkX11_keep hF [2] 200 ?_
  exact l0 24 0 mm (by decide) (by decide) rfl
