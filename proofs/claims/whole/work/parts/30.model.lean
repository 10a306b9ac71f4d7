/-! ===== the model, I ===== -/
def ps : List String → String → Int
  | [], _ => 1
  | e :: t, E => if E = e then 1 else 1 + ps t E
/-- the code of a refusal: the place of the exception among those that the operation names -/
def cdX (Es : List String) (c : Option String) : Int := match c with
  | none => 0
  | some E => ps Es E
def E0 : List String := [xIx, xIa, xIs]
def E1 : List String := [xIa]
def E2 : List String := [xIx, xIs]
def hold (mm : Mm) (z : Int) : Mm := st mm 40 0 60 (wr z)
theorem ix_t {z n : Int} (h : 0 ≤ z ∧ z < n) : ixC z n = none := if_pos h
theorem ix_f {z n : Int} (h : ¬ (0 ≤ z ∧ z < n)) : ixC z n = some xIx := if_neg h
theorem rg_t {z a b : Int} (h : a ≤ z ∧ z ≤ b) : rgC z a b = none := if_pos h
theorem rg_f {z a b : Int} (h : ¬ (a ≤ z ∧ z ≤ b)) : rgC z a b = some xIa := if_neg h
theorem or_t {a b : Int} (h : a ≤ b) : orC a b = none := if_pos h
theorem or_f {a b : Int} (h : ¬ a ≤ b) : orC a b = some xIa := if_neg h
theorem ck_ln {a b : Option String} (h : a = none) : ck a b = b := by rw [h]; rfl
theorem nb {p : Prop} (h : wr (bz p) = 0) : ¬ p := by rw [wr_bz] at h; exact bz_0.mp h
theorem yb {p : Prop} (h : ¬ wr (bz p) = 0) : p := by rw [wr_bz, bz_0] at h; exact Classical.not_not.mp h
set_option maxRecDepth 100000 in
set_option maxHeartbeats 400000 in
theorem M_thrown  (mm : Mm) (o : Int64)  : MetX iX11_thrown [xr 40 0] mm o (rto (xi (rd mm 40 0 60)) mm o) := by
  refine MetX.of 1 (by decide +kernel) rfl (Nat.le_of_ble_eq_true rfl) ⟨by decide, by decide⟩ ?_
  intro p l e s m args below meth c Q V D ad A hC hN hok hF
  refine wpx hC tkX11_thrown hF [] 200 ?_
  exact ⟨rfl, rfl, rfl⟩
set_option maxRecDepth 100000 in
set_option maxHeartbeats 400000 in
theorem M_holds (z : Int) (mm : Mm) (o : Int64) (hz : wr z = z) : MetX iX11_holds [xr 40 0, xi z] mm o (rto (xi (bz (0 < z))) (hold mm z) o) := by
  refine MetX.of 2 (by decide +kernel) rfl (Nat.le_of_ble_eq_true rfl) ⟨by decide, by decide⟩ ?_
  intro p l e s m args below meth c Q V D ad A hC hN hok hF
  refine wpx hC tkX11_holds hF [] 200 ?_
  refine ⟨fun q => ⟨Or.inl rfl, ?_, rfl, rfl⟩, fun q => ⟨Or.inr rfl, ?_, rfl, rfl⟩⟩
  · rw [hz] at q; exact congrArg (fun z => some (xi z)) (bz_f (by omega)).symm
  · rw [hz] at q; exact congrArg (fun z => some (xi z)) (bz_t (by omega)).symm
set_option maxRecDepth 100000 in
set_option maxHeartbeats 400000 in
theorem M_in (z a b : Int) (mm : Mm) (o : Int64) (hz : wr z = z) (ha : wr a = a) (hb : wr b = b) : MetX iX11_in [xr 40 0, xi z, xi a, xi b] mm o (rto (xi (bz (a ≤ z ∧ z ≤ b))) mm o) := by
  refine MetX.of 2 (by decide +kernel) rfl (Nat.le_of_ble_eq_true rfl) ⟨by decide, by decide⟩ ?_
  intro p l e s m args below meth c Q V D ad A hC hN hok hF
  refine wpx hC tkX11_in hF [] 200 ?_
  refine ⟨fun q => ⟨Or.inl rfl, ?_, rfl, rfl⟩, fun q => ⟨fun q2 => ⟨Or.inl rfl, ?_, rfl, rfl⟩, fun q2 => ⟨Or.inr rfl, ?_, rfl, rfl⟩⟩⟩
  · rw [hz, ha] at q; exact congrArg (fun z => some (xi z)) (bz_f (by omega)).symm
  · rw [hz, ha] at q; rw [hz, hb] at q2; exact congrArg (fun z => some (xi z)) (bz_f (by omega)).symm
  · rw [hz, ha] at q; rw [hz, hb] at q2; exact congrArg (fun z => some (xi z)) (bz_t (by omega)).symm
set_option maxRecDepth 100000 in
set_option maxHeartbeats 400000 in
theorem M_isSite (z : Int) (mm : Mm) (o : Int64) (hz : wr z = z) : MetX iX11_isSite [xr 40 0, xi z] mm o (rto (xi (bz (0 ≤ z ∧ z ≤ 2))) mm o) := by
  refine MetX.of 2 (by decide +kernel) rfl (Nat.le_of_ble_eq_true rfl) ⟨by decide, by decide⟩ ?_
  intro p l e s m args below meth c Q V D ad A hC hN hok hF
  refine wpx hC tkX11_isSite hF [] 200 ?_
  refine Wx.callV (x := iX11_isSite) (y := iX11_in) (k := 40) (avs := [_, _, _]) (rest := []) hC hN tkX11_isSite rfl rfl kX11_in rfl (M_in _ _ _ _ _ hz rfl rfl) ⟨rfl, rfl⟩ rfl (Nat.le_of_ble_eq_true rfl) (by exact nol rfl) ?_
  rintro r mm' o' ⟨rfl, rfl, rfl⟩
  refine wpx hC tkX11_isSite hF [] 200 ?_
  exact ⟨bz01 _, rfl, rfl, rfl⟩
set_option maxRecDepth 100000 in
set_option maxHeartbeats 400000 in
theorem M_isNight (z : Int) (mm : Mm) (o : Int64) (hz : wr z = z) : MetX iX11_isNight [xr 40 0, xi z] mm o (rto (xi (bz (0 ≤ z ∧ z ≤ 29))) mm o) := by
  refine MetX.of 2 (by decide +kernel) rfl (Nat.le_of_ble_eq_true rfl) ⟨by decide, by decide⟩ ?_
  intro p l e s m args below meth c Q V D ad A hC hN hok hF
  refine wpx hC tkX11_isNight hF [] 200 ?_
  refine Wx.callV (x := iX11_isNight) (y := iX11_in) (k := 40) (avs := [_, _, _]) (rest := []) hC hN tkX11_isNight rfl rfl kX11_in rfl (M_in _ _ _ _ _ hz rfl rfl) ⟨rfl, rfl⟩ rfl (Nat.le_of_ble_eq_true rfl) (by exact nol rfl) ?_
  rintro r mm' o' ⟨rfl, rfl, rfl⟩
  refine wpx hC tkX11_isNight hF [] 200 ?_
  exact ⟨bz01 _, rfl, rfl, rfl⟩
set_option maxRecDepth 100000 in
set_option maxHeartbeats 400000 in
theorem M_isSlot (z : Int) (mm : Mm) (o : Int64) (hz : wr z = z) : MetX iX11_isSlot [xr 40 0, xi z] mm o (rto (xi (bz (0 ≤ z ∧ z ≤ 23))) mm o) := by
  refine MetX.of 2 (by decide +kernel) rfl (Nat.le_of_ble_eq_true rfl) ⟨by decide, by decide⟩ ?_
  intro p l e s m args below meth c Q V D ad A hC hN hok hF
  refine wpx hC tkX11_isSlot hF [] 200 ?_
  refine Wx.callV (x := iX11_isSlot) (y := iX11_in) (k := 40) (avs := [_, _, _]) (rest := []) hC hN tkX11_isSlot rfl rfl kX11_in rfl (M_in _ _ _ _ _ hz rfl rfl) ⟨rfl, rfl⟩ rfl (Nat.le_of_ble_eq_true rfl) (by exact nol rfl) ?_
  rintro r mm' o' ⟨rfl, rfl, rfl⟩
  refine wpx hC tkX11_isSlot hF [] 200 ?_
  exact ⟨bz01 _, rfl, rfl, rfl⟩
set_option maxRecDepth 100000 in
set_option maxHeartbeats 400000 in
theorem M_isGroup (z : Int) (mm : Mm) (o : Int64) (hz : wr z = z) : MetX iX11_isGroup [xr 40 0, xi z] mm o (rto (xi (bz (0 ≤ z ∧ z ≤ 3))) mm o) := by
  refine MetX.of 2 (by decide +kernel) rfl (Nat.le_of_ble_eq_true rfl) ⟨by decide, by decide⟩ ?_
  intro p l e s m args below meth c Q V D ad A hC hN hok hF
  refine wpx hC tkX11_isGroup hF [] 200 ?_
  refine Wx.callV (x := iX11_isGroup) (y := iX11_in) (k := 40) (avs := [_, _, _]) (rest := []) hC hN tkX11_isGroup rfl rfl kX11_in rfl (M_in _ _ _ _ _ hz rfl rfl) ⟨rfl, rfl⟩ rfl (Nat.le_of_ble_eq_true rfl) (by exact nol rfl) ?_
  rintro r mm' o' ⟨rfl, rfl, rfl⟩
  refine wpx hC tkX11_isGroup hF [] 200 ?_
  exact ⟨bz01 _, rfl, rfl, rfl⟩
set_option maxRecDepth 100000 in
set_option maxHeartbeats 400000 in
theorem M_isTarget (z : Int) (mm : Mm) (o : Int64) (hz : wr z = z) (hc : 0 ≤ rd mm 40 0 25) : MetX iX11_isTarget [xr 40 0, xi z] mm o (rto (xi (bz (0 ≤ z ∧ z ≤ rd mm 40 0 25 - 1))) mm o) := by
  refine MetX.of 2 (by decide +kernel) rfl (Nat.le_of_ble_eq_true rfl) ⟨by decide, by decide⟩ ?_
  intro p l e s m args below meth c Q V D ad A hC hN hok hF
  have hi := rd_hi mm 40 0 25
  refine wpx hC tkX11_isTarget hF [] 200 ?_
  refine Wx.callV (x := iX11_isTarget) (y := iX11_in) (k := 40) (avs := [_, _, _]) (rest := []) hC hN tkX11_isTarget rfl rfl kX11_in rfl (M_in _ _ _ _ _ hz rfl (wr_of (by omega) (by omega))) ⟨rfl, rfl⟩ rfl (Nat.le_of_ble_eq_true rfl) (by exact nol rfl) ?_
  rintro r mm' o' ⟨rfl, rfl, rfl⟩
  refine wpx hC tkX11_isTarget hF [] 200 ?_
  exact ⟨bz01 _, rfl, rfl, rfl⟩
set_option maxRecDepth 100000 in
set_option maxHeartbeats 400000 in
theorem M_isData (z : Int) (mm : Mm) (o : Int64) (hz : wr z = z) (hc : 0 ≤ rd mm 40 0 58) : MetX iX11_isData [xr 40 0, xi z] mm o (rto (xi (bz (0 ≤ z ∧ z ≤ rd mm 40 0 58 - 1))) mm o) := by
  refine MetX.of 2 (by decide +kernel) rfl (Nat.le_of_ble_eq_true rfl) ⟨by decide, by decide⟩ ?_
  intro p l e s m args below meth c Q V D ad A hC hN hok hF
  have hi := rd_hi mm 40 0 58
  refine wpx hC tkX11_isData hF [] 200 ?_
  refine Wx.callV (x := iX11_isData) (y := iX11_in) (k := 40) (avs := [_, _, _]) (rest := []) hC hN tkX11_isData rfl rfl kX11_in rfl (M_in _ _ _ _ _ hz rfl (wr_of (by omega) (by omega))) ⟨rfl, rfl⟩ rfl (Nat.le_of_ble_eq_true rfl) (by exact nol rfl) ?_
  rintro r mm' o' ⟨rfl, rfl, rfl⟩
  refine wpx hC tkX11_isData hF [] 200 ?_
  exact ⟨bz01 _, rfl, rfl, rfl⟩
set_option maxRecDepth 100000 in
set_option maxHeartbeats 400000 in
theorem M_isPlace (a b : Int) (mm : Mm) (o : Int64) (ha : wr a = a) (hb : wr b = b) : MetX iX11_isPlace [xr 40 0, xi a, xi b] mm o (rto (xi (bz ((0 ≤ a ∧ a ≤ 359) ∧ (-90 ≤ b ∧ b ≤ 90)))) mm o) := by
  refine MetX.of 2 (by decide +kernel) rfl (Nat.le_of_ble_eq_true rfl) ⟨by decide, by decide⟩ ?_
  intro p l e s m args below meth c Q V D ad A hC hN hok hF
  refine wpx hC tkX11_isPlace hF [] 200 ?_
  refine Wx.callV (x := iX11_isPlace) (y := iX11_in) (k := 40) (avs := [_, _, _]) (rest := []) hC hN tkX11_isPlace rfl rfl kX11_in rfl (M_in _ _ _ _ _ ha rfl rfl) ⟨rfl, rfl⟩ rfl (Nat.le_of_ble_eq_true rfl) (by exact nol rfl) ?_
  rintro r mm' o' ⟨rfl, rfl, rfl⟩
  refine wpx hC tkX11_isPlace hF [] 200 ?_
  refine ⟨fun q => ⟨Or.inl rfl, ?_, rfl, rfl⟩, fun q => ?_⟩
  · exact congrArg (fun z => some (xi z)) (bz_f (fun h => nb q h.1)).symm
  refine Wx.callV (x := iX11_isPlace) (y := iX11_in) (k := 40) (avs := [_, _, _]) (rest := []) hC hN tkX11_isPlace rfl rfl kX11_in rfl (M_in _ _ _ _ _ hb rfl rfl) ⟨rfl, rfl⟩ rfl (Nat.le_of_ble_eq_true rfl) (by exact nol rfl) ?_
  rintro r mm' o' ⟨rfl, rfl, rfl⟩
  refine wpx hC tkX11_isPlace hF [] 200 ?_
  refine ⟨fun q2 => ⟨Or.inl rfl, ?_, rfl, rfl⟩, fun q2 => ⟨Or.inr rfl, ?_, rfl, rfl⟩⟩
  · exact congrArg (fun z => some (xi z)) (bz_f (fun h => nb q2 h.2)).symm
  · exact congrArg (fun z => some (xi z)) (bz_t ⟨yb q, yb q2⟩).symm
set_option maxRecDepth 100000 in
set_option maxHeartbeats 400000 in
theorem M_size (z : Int) (mm : Mm) (o : Int64)  : MetX iX11_size [xr 40 0, xi z] mm o (rto (xi (jabs z)) mm o) := by
  refine MetX.of 1 (by decide +kernel) rfl (Nat.le_of_ble_eq_true rfl) ⟨by decide, by decide⟩ ?_
  intro p l e s m args below meth c Q V D ad A hC hN hok hF
  refine wpx hC tkX11_size hF [] 200 ?_
  refine ⟨fun q => ⟨congrArg (fun z => some (xi z)) ?_, rfl, rfl⟩, fun q => ⟨congrArg (fun z => some (xi z)) ?_, rfl, rfl⟩⟩
  · unfold jabs; rw [if_pos q]
  · unfold jabs; rw [if_neg q]; omega
set_option maxRecDepth 100000 in
set_option maxHeartbeats 400000 in
theorem M_mangle (a b : Int) (mm : Mm) (o : Int64)  : MetX iX11_angle [xr 40 0, xi a, xi b] mm o (rto (xi (angC a b)) mm o) := by
  refine MetX.of 1 (by decide +kernel) rfl (Nat.le_of_ble_eq_true rfl) ⟨by decide, by decide⟩ ?_
  intro p l e s m args below meth c Q V D ad A hC hN hok hF
  refine wpx hC tkX11_angle hF [] 200 ?_
  refine Wx.callV (x := iX11_angle) (y := iX11_size) (k := 40) (avs := [_]) (rest := []) hC hN tkX11_angle rfl rfl kX11_size rfl (M_size _ _ _) ⟨rfl, rfl⟩ rfl (Nat.le_of_ble_eq_true rfl) (by exact nol rfl) ?_
  rintro r mm' o' ⟨rfl, rfl, rfl⟩
  refine wpx hC tkX11_angle hF [] 200 ?_
  have h1 : -360 < jrem (jabs (a - b)) 360 ∧ jrem (jabs (a - b)) 360 < 360 := by
    unfold jrem
    rw [show wr 360 = 360 from rfl]
    constructor
    · exact Int.lt_tmod_of_pos _ (by decide)
    · exact Int.tmod_lt_of_pos _ (by decide)
  refine ⟨by decide, fun q => ⟨congrArg (fun z => some (xi z)) ?_, rfl, rfl⟩, fun q => ⟨congrArg (fun z => some (xi z)) ?_, rfl, rfl⟩⟩
  · rw [show wr 180 = 180 from rfl, wr_of (by omega) (by omega)] at q
    unfold angC jmin
    rw [if_neg (by rw [wr_of (by omega) (by omega), wr_of (by omega) (by omega)]; omega)]
  · rw [show wr 180 = 180 from rfl, wr_of (by omega) (by omega)] at q
    unfold angC jmin
    rw [if_pos (by rw [wr_of (by omega) (by omega), wr_of (by omega) (by omega)]; omega)]
theorem ps_r : ∀ (Es : List String) (E : String), 1 ≤ ps Es E ∧ ps Es E ≤ 1 + Es.length
  | [], E => by unfold ps; exact ⟨by decide, by decide⟩
  | e :: t, E => by
    have h := ps_r t E
    unfold ps
    rw [List.length_cons]
    by_cases q : E = e
    · rw [if_pos q]; omega
    · rw [if_neg q]; omega
theorem cd_r (Es : List String) (c : Option String) : 0 ≤ cdX Es c ∧ cdX Es c ≤ 1 + Es.length := by
  unfold cdX
  cases c with
  | none => exact ⟨by dsimp only; omega, by dsimp only; omega⟩
  | some E => have := ps_r Es E; dsimp only; omega
theorem cd_pos (Es : List String) (c : Option String) : 0 < cdX Es c ↔ ¬ c = none := by
  cases c with
  | none => exact ⟨fun h => (Int.lt_irrefl 0 h).elim, fun h => absurd rfl h⟩
  | some E =>
    refine ⟨fun _ h => (nomatch h), fun _ => ?_⟩
    have := ps_r Es E
    unfold cdX
    dsimp only
    omega
theorem cv_x : cdX E0 (some xIx) = 1 ∧ cdX E2 (some xIx) = 1 ∧ cdX E0 (some xIa) = 2 ∧ cdX E1 (some xIa) = 1 ∧ cdX E0 (some xIs) = 3 ∧ cdX E2 (some xIs) = 2 := by decide
theorem cdx_ix {z n : Int} {X : Option String} (h : ¬ (0 ≤ z ∧ z < n)) : cdX E0 (ck (ixC z n) X) = 1 := by rw [ix_f h]; exact cv_x.1
theorem cdx2_ix {z n : Int} {X : Option String} (h : ¬ (0 ≤ z ∧ z < n)) : cdX E2 (ck (ixC z n) X) = 1 := by rw [ix_f h]; exact cv_x.2.1
theorem cdx_rg {z a b : Int} {X : Option String} (h : ¬ (a ≤ z ∧ z ≤ b)) : cdX E0 (ck (rgC z a b) X) = 2 := by rw [rg_f h]; exact cv_x.2.2.1
theorem cdx_or {a b : Int} {X : Option String} (h : ¬ a ≤ b) : cdX E0 (ck (orC a b) X) = 2 := by rw [or_f h]; exact cv_x.2.2.1
theorem cdy_ix {z n : Int} (h : ¬ (0 ≤ z ∧ z < n)) : cdX E0 (ixC z n) = 1 := by rw [ix_f h]; exact cv_x.1
theorem cdy_rg {z a b : Int} (h : ¬ (a ≤ z ∧ z ≤ b)) : cdX E0 (rgC z a b) = 2 := by rw [rg_f h]; exact cv_x.2.2.1
theorem cdy1_rg {z a b : Int} (h : ¬ (a ≤ z ∧ z ≤ b)) : cdX E1 (rgC z a b) = 1 := by rw [rg_f h]; exact cv_x.2.2.2.1
theorem cdy_or {a b : Int} (h : ¬ a ≤ b) : cdX E0 (orC a b) = 2 := by rw [or_f h]; exact cv_x.2.2.1
theorem cdy_st {P : Prop} (h : ¬ P) : cdX E0 (stC (bz P)) = 3 := by rw [bz_f h]; exact cv_x.2.2.2.2.1
theorem cdy2_st {P : Prop} (h : ¬ P) : cdX E2 (stC (bz P)) = 2 := by rw [bz_f h]; exact cv_x.2.2.2.2.2
theorem cdt_ix {Es : List String} {z n : Int} (h : 0 ≤ z ∧ z < n) : cdX Es (ixC z n) = 0 := by rw [ix_t h]; rfl
theorem cdt_rg {Es : List String} {z a b : Int} (h : a ≤ z ∧ z ≤ b) : cdX Es (rgC z a b) = 0 := by rw [rg_t h]; rfl
theorem cdt_or {Es : List String} {a b : Int} (h : a ≤ b) : cdX Es (orC a b) = 0 := by rw [or_t h]; rfl
theorem cdt_st {Es : List String} {P : Prop} (h : P) : cdX Es (stC (bz P)) = 0 := by rw [bz_t h]; rfl
theorem ck_ck (a b d : Option String) : ck (ck a b) d = ck a (ck b d) := by cases a <;> rfl
theorem M_holdc (Es : List String) (ch : Option String) (mm : Mm) (o : Int64) (hl : Es.length < 4) : MetX iX11_holds [xr 40 0, xi (cdX Es ch)] mm o (rto (xi (bz (¬ ch = none))) (hold mm (cdX Es ch)) o) := by
  have h := M_holds (cdX Es ch) mm o (wr_of (by have := cd_r Es ch; omega) (by have := cd_r Es ch; omega))
  rw [show bz (0 < cdX Es ch) = bz (¬ ch = none) by rw [propext (cd_pos Es ch)]] at h
  exact h
/-- what a call of the model does: it keeps the code, and goes on only where that is 0 -/
noncomputable def md (Es : List String) (ch : Option String) (mm : Mm) (f : Mm → Mm) : Mm := pif (ch = none) (f (hold mm (cdX Es ch))) (hold mm (cdX Es ch))
theorem md_n {Es : List String} {ch : Option String} {mm : Mm} {f : Mm → Mm} (h : ch = none) : md Es ch mm f = f (hold mm (cdX Es ch)) := pif_t h
theorem md_s {Es : List String} {ch : Option String} {mm : Mm} {f : Mm → Mm} (h : ¬ ch = none) : md Es ch mm f = hold mm (cdX Es ch) := pif_f h
theorem rd_hold (mm : Mm) (z : Int) (k : Nat) (i j : Int) (h : ¬ (k = 40 ∧ j = 60)) : rd (hold mm z) k i j = rd mm k i j := by
  unfold hold
  rw [rd_st, if_neg (fun q => h ⟨q.1, q.2.2⟩)]
def plcH (a b c9 : Int) : Option String := ck (ixC a 3) (ck (rgC b (-60) 60) (rgC c9 0 359))
noncomputable def plcM (mm : Mm) (a b c9 : Int) : Mm := md E0 (plcH a b c9) mm (fun m => st (st m 41 0 a (wr b)) 42 0 a (wr c9))
set_option maxRecDepth 100000 in
set_option maxHeartbeats 400000 in
theorem M_mplace (a b c9 : Int) (mm : Mm) (o : Int64) (ha : wr a = a) (hb : wr b = b) (hc : wr c9 = c9) : MetX iX11_place [xr 40 0, xi a, xi b, xi c9] mm o (rtv (plcM mm a b c9) o) := by
  refine MetX.of 0 (by decide +kernel) rfl (Nat.le_of_ble_eq_true rfl) ⟨by decide, by decide⟩ ?_
  intro p l e s m args below meth c Q V D ad A hC hN hok hF
  have hj : ∀ z, cdX E0 (plcH a b c9) = z → Wx p l e (mrm iX11_place) s m args below meth c 0 0 Q V D ad A 4 42 [(0, xr 40 0), (1, xi a), (2, xi b), (3, xi c9)] [xi z, xr 40 0] mm o := by
    rintro z rfl
    refine Wx.callV (x := iX11_place) (y := iX11_holds) (k := 40) (avs := [_]) (rest := []) hC hN tkX11_place rfl rfl kX11_holds rfl (M_holdc _ _ _ _ (by decide)) ⟨rfl, rfl⟩ rfl (Nat.le_of_ble_eq_true rfl) (by exact nol rfl) ?_
    rintro r mm' o' ⟨rfl, rfl, rfl⟩
    refine wpx hC tkX11_place hF [] 200 ?_
    refine ⟨fun q => ⟨rfl, md_s (yb q), rfl⟩, fun q => ?_⟩
    have hn := Classical.not_not.mp (nb q)
    obtain ⟨a0, a1⟩ := ix_of (ck_of hn).1
    exact ⟨⟨a0, a1⟩, ⟨a0, a1⟩, rfl, md_n hn, rfl⟩
  unfold plcH at hj
  refine wpx hC tkX11_place hF [42] 200 ?_
  refine Wx.callV (x := iX11_place) (y := iX11_isSite) (k := 40) (avs := [_]) (rest := [_]) hC hN tkX11_place rfl rfl kX11_isSite rfl (M_isSite _ _ _ ha) ⟨rfl, rfl⟩ rfl (Nat.le_of_ble_eq_true rfl) (by exact nol rfl) ?_
  rintro r mm' o' ⟨rfl, rfl, rfl⟩
  refine wpx hC tkX11_place hF [42] 200 ?_
  refine ⟨fun q => ?_, fun q => hj 1 (cdx_ix (by have := nb q; omega))⟩
  have qa : 0 ≤ a ∧ a < 3 := by have := yb q; omega
  refine Wx.callV (x := iX11_place) (y := iX11_in) (k := 40) (avs := [_, _, _]) (rest := [_]) hC hN tkX11_place rfl rfl kX11_in rfl (M_in _ _ _ _ _ hb rfl rfl) ⟨rfl, rfl⟩ rfl (Nat.le_of_ble_eq_true rfl) (by exact nol rfl) ?_
  rintro r mm' o' ⟨rfl, rfl, rfl⟩
  refine wpx hC tkX11_place hF [42] 200 ?_
  refine ⟨fun q2 => hj 2 (by rw [ck_ln (ix_t qa), cdx_rg (nb q2)]), fun q2 => ?_⟩
  refine Wx.callV (x := iX11_place) (y := iX11_in) (k := 40) (avs := [_, _, _]) (rest := [_]) hC hN tkX11_place rfl rfl kX11_in rfl (M_in _ _ _ _ _ hc rfl rfl) ⟨rfl, rfl⟩ rfl (Nat.le_of_ble_eq_true rfl) (by exact nol rfl) ?_
  rintro r mm' o' ⟨rfl, rfl, rfl⟩
  refine wpx hC tkX11_place hF [42] 200 ?_
  exact ⟨fun q3 => hj 2 (by rw [ck_ln (ix_t qa), ck_ln (rg_t (yb q2)), cdy_rg (nb q3)]), fun q3 => hj 0 (by rw [ck_ln (ix_t qa), ck_ln (rg_t (yb q2)), cdt_rg (yb q3)])⟩
noncomputable def mooM (mm : Mm) (a : Int) : Mm := md E1 (rgC a 0 29) mm (fun m => st m 40 0 2 (wr a))
noncomputable def mooR (mm : Mm) (a : Int) : Int := pif (rgC a 0 29 = none) (rd mm 40 0 2) (-1)
set_option maxRecDepth 100000 in
set_option maxHeartbeats 400000 in
theorem M_mmoon (a : Int) (mm : Mm) (o : Int64) (ha : wr a = a) : MetX iX11_moon [xr 40 0, xi a] mm o (rto (xi (mooR mm a)) (mooM mm a) o) := by
  refine MetX.of 1 (by decide +kernel) rfl (Nat.le_of_ble_eq_true rfl) ⟨by decide, by decide⟩ ?_
  intro p l e s m args below meth c Q V D ad A hC hN hok hF
  have hj : ∀ z, cdX E1 (rgC a 0 29) = z → Wx p l e (mrm iX11_moon) s m args below meth c 0 0 Q V D ad A 3 17 [(0, xr 40 0), (1, xi a)] [xi z, xr 40 0] mm o := by
    rintro z rfl
    refine Wx.callV (x := iX11_moon) (y := iX11_holds) (k := 40) (avs := [_]) (rest := []) hC hN tkX11_moon rfl rfl kX11_holds rfl (M_holdc _ _ _ _ (by decide)) ⟨rfl, rfl⟩ rfl (Nat.le_of_ble_eq_true rfl) (by exact nol rfl) ?_
    rintro r mm' o' ⟨rfl, rfl, rfl⟩
    refine wpx hC tkX11_moon hF [] 200 ?_
    refine ⟨fun q => ?_, fun q => ⟨congrArg (fun z => some (xi z)) (pif_f (yb q)).symm, md_s (yb q), rfl⟩⟩
    have hn := Classical.not_not.mp (nb q)
    exact ⟨congrArg (fun z => some (xi z)) (((rd_hold _ _ _ _ _ (by decide)).symm.trans (by rfl)).symm.trans (pif_t hn).symm), md_n hn, rfl⟩
  refine wpx hC tkX11_moon hF [17] 200 ?_
  refine Wx.callV (x := iX11_moon) (y := iX11_in) (k := 40) (avs := [_, _, _]) (rest := [_]) hC hN tkX11_moon rfl rfl kX11_in rfl (M_in _ _ _ _ _ ha rfl rfl) ⟨rfl, rfl⟩ rfl (Nat.le_of_ble_eq_true rfl) (by exact nol rfl) ?_
  rintro r mm' o' ⟨rfl, rfl, rfl⟩
  refine wpx hC tkX11_moon hF [17] 200 ?_
  exact ⟨fun q => hj 1 (cdy1_rg (nb q)), fun q => hj 0 (cdt_rg (yb q))⟩
