/-! ===== the model, XXI: back to a night ===== -/
def gb1 (n t : Int) (m : Mm) : Mm := st m 72 0 t (wr (rd m 88 0 (24 * n + t)))
def gb2 (n t : Int) (m : Mm) : Mm := st m 73 0 t (wr (rd m 89 0 (24 * n + t)))
def gb3 (n t : Int) (m : Mm) : Mm := st m 74 0 t (wr (jand (rd m 74 0 t) (jshl 1 n - 1)))
def gb4 (t : Int) (m : Mm) : Mm := st m 83 0 t (wr 0)
def gbT (n t : Int) (m : Mm) : Mm := gb4 t (gb3 n t (gb2 n t (gb1 n t m)))
noncomputable def gbA (n t : Int) (m : Mm) : Mm := st m 75 0 t (wr (pif (rd m 75 0 t < n) (rd m 75 0 t) (-1)))
def gbC (n t : Int) (m : Mm) : Mm := st m 76 0 t (wr (rd m 87 0 (4 * n + t)))
def gbV (t : Int) (m : Mm) : Mm := st m 80 0 t (wr (-1))
noncomputable def gbM (mm : Mm) (n : Int) : Mm := fori gbV 3 0 (fori (gbC n) 4 0 (fori (gbA n) 10 0 (fori (gbT n) 24 0 mm)))
set_option maxRecDepth 100000 in
set_option maxHeartbeats 400000 in
theorem M_goBack (n : Int) (mm : Mm) (o : Int64) (n0 : 0 ≤ n) (n1 : n < 30) : MetX iX11_goBack [xr 40 0, xi n] mm o (rtv (gbM mm n) o) := by
  refine MetX.of 0 (by decide +kernel) rfl (Nat.le_of_ble_eq_true rfl) ⟨by decide, by decide⟩ ?_
  intro p l e s m args below meth c Q V D ad A hC hN hok hF
  have lV : ∀ (k : Nat) (i : Int) (m9 : Mm), 0 ≤ i → i + k = 3 → fori gbV k i m9 = gbM mm n → Wx p l e (mrm iX11_goBack) s m args below meth c 0 0 Q V D ad A 3 140 [(0, xr 40 0), (1, xi n), (2, xi i)] [] m9 o := by
    intro k
    induction k with
    | zero =>
      intro i m9 i0 hi he
      refine wpx hC tkX11_goBack hF [140] 200 ?_
      refine ⟨fun _ => ⟨rfl, he.symm, rfl⟩, fun q => ?_⟩
      rw [show wr 3 = 3 from rfl, wr_of (by omega) (by omega)] at q; omega
    | succ k ih =>
      intro i m9 i0 hi he
      have i2 : 0 ≤ i ∧ i < 3 := by omega
      refine wpx hC tkX11_goBack hF [140] 200 ?_
      refine ⟨fun q => ?_, fun _ => ⟨i2, ih (i + 1) (gbV i m9) (by omega) (by omega) he⟩⟩
      rw [show wr 3 = 3 from rfl, wr_of (by omega) (by omega)] at q; omega
  have lC : ∀ (k : Nat) (i : Int) (m9 : Mm), 0 ≤ i → i + k = 4 → fori gbV 3 0 (fori (gbC n) k i m9) = gbM mm n → Wx p l e (mrm iX11_goBack) s m args below meth c 0 0 Q V D ad A 3 111 [(0, xr 40 0), (1, xi n), (2, xi i)] [] m9 o := by
    intro k
    induction k with
    | zero =>
      intro i m9 i0 hi he
      refine wpx hC tkX11_goBack hF [111, 140] 200 ?_
      refine ⟨fun _ => lV 3 0 m9 (by decide) (by decide) he, fun q => ?_⟩
      rw [show wr 4 = 4 from rfl, wr_of (by omega) (by omega)] at q; omega
    | succ k ih =>
      intro i m9 i0 hi he
      have i2 : 0 ≤ i ∧ i < 4 := by omega
      have x2 : 0 ≤ 4 * n + i ∧ 4 * n + i < 120 := by omega
      refine wpx hC tkX11_goBack hF [111] 200 ?_
      refine ⟨fun q => ?_, fun _ => ⟨x2, i2, ih (i + 1) (gbC n i m9) (by omega) (by omega) he⟩⟩
      rw [show wr 4 = 4 from rfl, wr_of (by omega) (by omega)] at q; omega
  have lA : ∀ (k : Nat) (i : Int) (m9 : Mm), 0 ≤ i → i + k = 10 → fori gbV 3 0 (fori (gbC n) 4 0 (fori (gbA n) k i m9)) = gbM mm n → Wx p l e (mrm iX11_goBack) s m args below meth c 0 0 Q V D ad A 3 71 [(0, xr 40 0), (1, xi n), (2, xi i)] [] m9 o := by
    intro k
    induction k with
    | zero =>
      intro i m9 i0 hi he
      refine wpx hC tkX11_goBack hF [71, 111] 200 ?_
      refine ⟨fun _ => lC 4 0 m9 (by decide) (by decide) he, fun q => ?_⟩
      rw [show wr 10 = 10 from rfl, wr_of (by omega) (by omega)] at q; omega
    | succ k ih =>
      intro i m9 i0 hi he
      have i2 : 0 ≤ i ∧ i < 10 := by omega
      have next : ∀ z, z = pif (rd m9 75 0 i < n) (rd m9 75 0 i) (-1) → Wx p l e (mrm iX11_goBack) s m args below meth c 0 0 Q V D ad A 3 102 [(0, xr 40 0), (1, xi n), (2, xi i)] [xi z, xi i, xr 75 0] m9 o := by
        rintro z rfl
        refine wpx hC tkX11_goBack hF [71] 200 ?_
        exact ⟨i2, ih (i + 1) (gbA n i m9) (by omega) (by omega) he⟩
      refine wpx hC tkX11_goBack hF [71, 102] 200 ?_
      refine ⟨fun q => ?_, fun _ => ⟨i2, fun q => ⟨i2, next _ (pif_t ?_).symm⟩, fun q => next _ (pif_f ?_).symm⟩⟩
      · rw [show wr 10 = 10 from rfl, wr_of (by omega) (by omega)] at q; omega
      · rw [wr_rd, wr_of (by omega) (by omega)] at q; exact q
      · rw [wr_rd, wr_of (by omega) (by omega)] at q; exact q
  have lT : ∀ (k : Nat) (i : Int) (m9 : Mm), 0 ≤ i → i + k = 24 → fori gbV 3 0 (fori (gbC n) 4 0 (fori (gbA n) 10 0 (fori (gbT n) k i m9))) = gbM mm n → Wx p l e (mrm iX11_goBack) s m args below meth c 0 0 Q V D ad A 3 2 [(0, xr 40 0), (1, xi n), (2, xi i)] [] m9 o := by
    intro k
    induction k with
    | zero =>
      intro i m9 i0 hi he
      refine wpx hC tkX11_goBack hF [2, 71] 200 ?_
      refine ⟨fun _ => lA 10 0 m9 (by decide) (by decide) he, fun q => ?_⟩
      rw [show wr 24 = 24 from rfl, wr_of (by omega) (by omega)] at q; omega
    | succ k ih =>
      intro i m9 i0 hi he
      have i2 : 0 ≤ i ∧ i < 24 := by omega
      have x2 : 0 ≤ 24 * n + i ∧ 24 * n + i < 720 := by omega
      refine wpx hC tkX11_goBack hF [2] 200 ?_
      refine ⟨fun q => ?_, fun _ => ⟨x2, i2, x2, i2, i2, i2, i2, ih (i + 1) (gbT n i m9) (by omega) (by omega) he⟩⟩
      rw [show wr 24 = 24 from rfl, wr_of (by omega) (by omega)] at q; omega
  refine wpx hC tkX11_goBack hF [2] 200 ?_
  exact lT 24 0 mm (by decide) (by decide) rfl
