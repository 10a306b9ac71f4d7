/-! ===== tell, II ===== -/
section CTX
variable {p : Program} {l : Launch} {e : Env} {s : State} {m : MethodId} {args : Array Value} {below : List Frame} {meth : Method} {c : Code} {Q : State → Prop} {V : Nat → Int → Prop} {D : DD} {ad : Nat → Int → Nat} {A : Nat → Prop}
set_option maxRecDepth 100000 in
set_option maxHeartbeats 1600000 in
theorem tell_2 {a w : Mm} {j n1 : Int} (hC : Cx V RL cL_tell 4 p (mrmT iL_tell 80) s m args meth c D ad A) (hN : wNest s) (hT : wThr A s) (hst : l.stackTraces = false)
    (kk : ∀ f o, DN (GT a n1) f (fun z => z < 20) → Wx p l e (mrmT iL_tell 80) s m args below meth c 45 304 Q V D ad A 4 87 [(0, xr 1 0), (1, xr 40 0), (2, xr 41 j)] [] (mix a (fill w j f)) o) :
    ∀ (n i : Nat) (f : Int → Int) (o : Int64), i + n = 4 → DN (GT a n1) f (fun z => z < 12 + (i : Int) ∨ (16 ≤ z ∧ z < 16 + (i : Int))) → Wx p l e (mrmT iL_tell 80) s m args below meth c (37 + 2 * i) (256 + 12 * i) Q V D ad A 4 52 (LT j i) [] (mix a (fill w j f)) o := by
  intro n
  induction n with
  | zero =>
    intro i f o hi hf
    refine wpk hC ⟨by show (_ : Nat) ≤ 80; omega, by show (_ : Nat) ≤ 6 * 80; omega⟩ tkL_tell [87] 200 ?_
    refine ⟨fun _ => Wx.widen (k := 45) (n := 304) (by omega) (by omega) (Wx.pick [0, 1, 2] rfl (kk f o (DN_eq hf (fun y _ _ h => Or.inl (by omega)) (fun y _ _ h => by omega)))), fun q => ?_⟩
    rw [wr_of (by omega) (by omega), wr_of (by omega) (by omega)] at q
    omega
  | succ n ih =>
    intro i f o hi hf
    have i0 : (0 : Int) ≤ (i : Int) := by omega
    refine wpk hC ⟨by show (_ : Nat) ≤ 80; omega, by show (_ : Nat) ≤ 6 * 80; omega⟩ tkL_tell [87] 200 ?_
    refine ⟨fun q => ?_, fun q => ?_⟩
    · rw [wr_of (by omega) (by omega), wr_of (by omega) (by omega)] at q
      omega
    refine Wx.cT (y := iX10_slots) (k := 1) (avs := [_, _]) (rest := [_, _]) hC hN hT hst tkL_tell rfl rfl kX10_slots ⟨by decide, by decide⟩ rfl (M_slots a o i 0 (wr_of (by omega) (by omega)) rfl) (noT (ix_n i0 (by omega))) rfl (Nat.le_of_ble_eq_true rfl) rfl ⟨by show (_ : Nat) ≤ 80; omega, by show (_ : Nat) ≤ 6 * 80; omega⟩ ?_
    rintro r a' o' ⟨-, rfl, rfl, rfl⟩
    refine wpk hC ⟨by show (_ : Nat) ≤ 80; omega, by show (_ : Nat) ≤ 6 * 80; omega⟩ tkL_tell [] 200 ?_
    refine ⟨⟨by omega, by show 12 + (i : Int) < (40 : Nat); omega⟩, ?_⟩
    rw [st_mf]
    refine Wx.cT (y := iX10_slots) (k := 1) (avs := [_, _]) (rest := [_, _]) hC hN hT hst tkL_tell rfl rfl kX10_slots ⟨by decide, by decide⟩ rfl (M_slots a o i 1 (wr_of (by omega) (by omega)) rfl) (noT (ix_n i0 (by omega))) rfl (Nat.le_of_ble_eq_true rfl) rfl ⟨by show (_ : Nat) ≤ 80; omega, by show (_ : Nat) ≤ 6 * 80; omega⟩ ?_
    rintro r a' o' ⟨-, rfl, rfl, rfl⟩
    refine wpk hC ⟨by show (_ : Nat) ≤ 80; omega, by show (_ : Nat) ≤ 6 * 80; omega⟩ tkL_tell [52] 200 ?_
    refine ⟨⟨by omega, by show 16 + (i : Int) < (40 : Nat); omega⟩, ?_⟩
    rw [st_mf]
    have h1 := DN_put (D' := fun z => z < 12 + (i : Int) + 1 ∨ (16 ≤ z ∧ z < 16 + (i : Int))) hf (z := 12 + (i : Int)) (v := wr (sltC a i 0)) (by
      unfold GT tellV
      rw [pif_f (by omega), pif_t (by omega), show 12 + (i : Int) - 12 = i by omega]
      unfold sltC
      rw [pif_t rfl]) (fun y _ _ => by omega)
    have h2 := DN_put (D' := fun z => z < 12 + ((i + 1 : Nat) : Int) ∨ (16 ≤ z ∧ z < 16 + ((i + 1 : Nat) : Int))) h1 (z := 16 + (i : Int)) (v := wr (sltC a i 1)) (by
      unfold GT tellV
      rw [pif_f (by omega), pif_f (by omega), pif_t (by omega), show 16 + (i : Int) - 16 = i by omega]
      unfold sltC
      rw [pif_f (by decide)]) (fun y _ _ => by omega)
    exact ih (i + 1) _ o (by omega) h2
set_option maxRecDepth 100000 in
set_option maxHeartbeats 1600000 in
theorem tell_3 {a w : Mm} {j n1 : Int} (hC : Cx V RL cL_tell 4 p (mrmT iL_tell 80) s m args meth c D ad A) (hN : wNest s) (hT : wThr A s) (hst : l.stackTraces = false)
    (kk : ∀ f o, DN (GT a n1) f (fun z => z < 29) → Wx p l e (mrmT iL_tell 80) s m args below meth c 69 448 Q V D ad A 4 157 [(0, xr 1 0), (1, xr 40 0), (2, xr 41 j)] [] (mix a (fill w j f)) o) :
    ∀ (n i : Nat) (f : Int → Int) (o : Int64), i + n = 3 → DN (GT a n1) f (fun z => z < 20 + (i : Int) ∨ (23 ≤ z ∧ z < 23 + (i : Int)) ∨ (26 ≤ z ∧ z < 26 + (i : Int))) → Wx p l e (mrmT iL_tell 80) s m args below meth c (45 + 8 * i) (304 + 48 * i) Q V D ad A 4 89 (LT j i) [] (mix a (fill w j f)) o := by
  intro n
  induction n with
  | zero =>
    intro i f o hi hf
    refine wpk hC ⟨by show (_ : Nat) ≤ 80; omega, by show (_ : Nat) ≤ 6 * 80; omega⟩ tkL_tell [157] 200 ?_
    refine ⟨fun _ => Wx.widen (k := 69) (n := 448) (by omega) (by omega) (Wx.pick [0, 1, 2] rfl (kk f o (DN_eq hf (fun y _ _ h => Or.inl (by omega)) (fun y _ _ h => by omega)))), fun q => ?_⟩
    rw [wr_of (by omega) (by omega), wr_of (by omega) (by omega)] at q
    omega
  | succ n ih =>
    intro i f o hi hf
    have i0 : (0 : Int) ≤ (i : Int) := by omega
    refine wpk hC ⟨by show (_ : Nat) ≤ 80; omega, by show (_ : Nat) ≤ 6 * 80; omega⟩ tkL_tell [157] 200 ?_
    refine ⟨fun q => ?_, fun q => ?_⟩
    · rw [wr_of (by omega) (by omega), wr_of (by omega) (by omega)] at q
      omega
    have wi : wr (i : Int) = i := wr_of (by omega) (by omega)
    refine Wx.cT (y := iX10_goingOn) (k := 2) (avs := [_, _]) (rest := [_, _, _]) hC hN hT hst tkL_tell rfl rfl kX10_goingOn ⟨by decide, by decide⟩ rfl (M_goingOn a o i 0 wi rfl) (noT (ck_n (ix_n i0 (by omega)) rfl)) rfl (Nat.le_of_ble_eq_true rfl) rfl ⟨by show (_ : Nat) ≤ 80; omega, by show (_ : Nat) ≤ 6 * 80; omega⟩ ?_
    rintro r a' o' ⟨-, rfl, rfl, rfl⟩
    refine wpk hC ⟨by show (_ : Nat) ≤ 80; omega, by show (_ : Nat) ≤ 6 * 80; omega⟩ tkL_tell [] 200 ?_
    refine Wx.cT (y := iX10_goingOn) (k := 2) (avs := [_, _]) (rest := [_, _, _]) hC hN hT hst tkL_tell rfl rfl kX10_goingOn ⟨by decide, by decide⟩ rfl (M_goingOn a o i 1 wi rfl) (noT (ck_n (ix_n i0 (by omega)) rfl)) rfl (Nat.le_of_ble_eq_true rfl) rfl ⟨by show (_ : Nat) ≤ 80; omega, by show (_ : Nat) ≤ 6 * 80; omega⟩ ?_
    rintro r a' o' ⟨-, rfl, rfl, rfl⟩
    refine wpk hC ⟨by show (_ : Nat) ≤ 80; omega, by show (_ : Nat) ≤ 6 * 80; omega⟩ tkL_tell [] 200 ?_
    refine Wx.cT (y := iX10_goingOn) (k := 2) (avs := [_, _]) (rest := [_, _, _, _]) hC hN hT hst tkL_tell rfl rfl kX10_goingOn ⟨by decide, by decide⟩ rfl (M_goingOn a o i 2 wi rfl) (noT (ck_n (ix_n i0 (by omega)) rfl)) rfl (Nat.le_of_ble_eq_true rfl) rfl ⟨by show (_ : Nat) ≤ 80; omega, by show (_ : Nat) ≤ 6 * 80; omega⟩ ?_
    rintro r a' o' ⟨-, rfl, rfl, rfl⟩
    refine wpk hC ⟨by show (_ : Nat) ≤ 80; omega, by show (_ : Nat) ≤ 6 * 80; omega⟩ tkL_tell [] 200 ?_
    refine ⟨⟨by omega, by show 20 + (i : Int) < (40 : Nat); omega⟩, ?_⟩
    rw [st_mf]
    refine Wx.cT (y := iX10_lost) (k := 1) (avs := [_, _]) (rest := [_, _]) hC hN hT hst tkL_tell rfl rfl kX10_lost ⟨by decide, by decide⟩ rfl (M_lost a o i 1 wi rfl) (noT (ix_n i0 (by omega))) rfl (Nat.le_of_ble_eq_true rfl) rfl ⟨by show (_ : Nat) ≤ 80; omega, by show (_ : Nat) ≤ 6 * 80; omega⟩ ?_
    rintro r a' o' ⟨-, rfl, rfl, rfl⟩
    refine wpk hC ⟨by show (_ : Nat) ≤ 80; omega, by show (_ : Nat) ≤ 6 * 80; omega⟩ tkL_tell [] 200 ?_
    refine ⟨⟨by omega, by show 23 + (i : Int) < (40 : Nat); omega⟩, ?_⟩
    rw [st_mf]
    refine Wx.cT (y := iX10_lost) (k := 1) (avs := [_, _]) (rest := [_, _]) hC hN hT hst tkL_tell rfl rfl kX10_lost ⟨by decide, by decide⟩ rfl (M_lost a o i 0 wi rfl) (noT (ix_n i0 (by omega))) rfl (Nat.le_of_ble_eq_true rfl) rfl ⟨by show (_ : Nat) ≤ 80; omega, by show (_ : Nat) ≤ 6 * 80; omega⟩ ?_
    rintro r a' o' ⟨-, rfl, rfl, rfl⟩
    refine wpk hC ⟨by show (_ : Nat) ≤ 80; omega, by show (_ : Nat) ≤ 6 * 80; omega⟩ tkL_tell [89] 200 ?_
    refine ⟨⟨by omega, by show 26 + (i : Int) < (40 : Nat); omega⟩, ?_⟩
    rw [st_mf]
    have h1 := DN_put (D' := fun z => z < 20 + (i : Int) + 1 ∨ (23 ≤ z ∧ z < 23 + (i : Int)) ∨ (26 ≤ z ∧ z < 26 + (i : Int))) hf (z := 20 + (i : Int)) (v := wr (100 * rd a 31 (27 * 0 + (i : Int)) 0 + rd a 31 (27 * 0 + (i : Int)) 1 + 1000 * rd a 31 (27 * 0 + (i : Int)) 2)) (by
      unfold GT tellV
      rw [pif_f (by omega), pif_f (by omega), pif_f (by omega), pif_t (by omega), show 20 + (i : Int) - 20 = i by omega]) (fun y _ _ => by omega)
    have h2 := DN_put (D' := fun z => z < 20 + (i : Int) + 1 ∨ (23 ≤ z ∧ z < 23 + (i : Int) + 1) ∨ (26 ≤ z ∧ z < 26 + (i : Int))) h1 (z := 23 + (i : Int)) (v := wr (lstC a i 1)) (by
      unfold GT tellV
      rw [pif_f (by omega), pif_f (by omega), pif_f (by omega), pif_f (by omega), pif_t (by omega), show 23 + (i : Int) - 23 = i by omega]
      unfold lstC
      rw [pif_f (by decide)]) (fun y _ _ => by omega)
    have h3 := DN_put (D' := fun z => z < 20 + ((i + 1 : Nat) : Int) ∨ (23 ≤ z ∧ z < 23 + ((i + 1 : Nat) : Int)) ∨ (26 ≤ z ∧ z < 26 + ((i + 1 : Nat) : Int))) h2 (z := 26 + (i : Int)) (v := wr (lstC a i 0)) (by
      unfold GT tellV
      rw [pif_f (by omega), pif_f (by omega), pif_f (by omega), pif_f (by omega), pif_f (by omega), pif_t (by omega), show 26 + (i : Int) - 26 = i by omega]
      unfold lstC
      rw [pif_t rfl]) (fun y _ _ => by omega)
    exact ih (i + 1) _ o (by omega) h3
set_option maxRecDepth 100000 in
set_option maxHeartbeats 1600000 in
theorem tell_4 {a w : Mm} {j n1 : Int} (hC : Cx V RL cL_tell 4 p (mrmT iL_tell 80) s m args meth c D ad A) (hN : wNest s)
    (kk : ∀ f o, DN (GT a n1) f (fun _ => True) → Wx p l e (mrmT iL_tell 80) s m args below meth c 69 448 Q V D ad A 4 182 [] [xr 41 j] (mix a (fill w j f)) o) (f : Int → Int) (o : Int64) (hf : DN (GT a n1) f (fun z => z < 29)) : Wx p l e (mrmT iL_tell 80) s m args below meth c 69 448 Q V D ad A 4 157 [(0, xr 1 0), (1, xr 40 0), (2, xr 41 j)] [] (mix a (fill w j f)) o := by
  refine wpk hC ⟨by show (_ : Nat) ≤ 80; omega, by show (_ : Nat) ≤ 6 * 80; omega⟩ tkL_tell [] 200 ?_
  refine Wx.cX (y := iX10_waiting) (avs := []) (rest := [_, _]) hC hN tkL_tell rfl rfl kX10_waiting ⟨by decide, by decide⟩ rfl (M_waiting a o) rfl (Nat.le_of_ble_eq_true rfl) rfl ⟨by show (_ : Nat) ≤ 80; omega, by show (_ : Nat) ≤ 6 * 80; omega⟩ ?_
  rintro r a' o' ⟨rfl, rfl, rfl⟩
  refine wpk hC ⟨by show (_ : Nat) ≤ 80; omega, by show (_ : Nat) ≤ 6 * 80; omega⟩ tkL_tell [] 200 ?_
  refine ⟨by decide, ?_⟩
  rw [st_mf]
  refine Wx.cX (y := iX10_now) (avs := []) (rest := [_, _]) hC hN tkL_tell rfl rfl kX10_now ⟨by decide, by decide⟩ rfl (M_now a o) rfl (Nat.le_of_ble_eq_true rfl) rfl ⟨by show (_ : Nat) ≤ 80; omega, by show (_ : Nat) ≤ 6 * 80; omega⟩ ?_
  rintro r a' o' ⟨rfl, rfl, rfl⟩
  refine wpk hC ⟨by show (_ : Nat) ≤ 80; omega, by show (_ : Nat) ≤ 6 * 80; omega⟩ tkL_tell [] 200 ?_
  refine ⟨by decide, ?_⟩
  rw [st_mf]
  refine Wx.cX (y := iX10_data) (avs := []) (rest := [_, _]) hC hN tkL_tell rfl rfl kX10_data ⟨by decide, by decide⟩ rfl (M_data a o) rfl (Nat.le_of_ble_eq_true rfl) rfl ⟨by show (_ : Nat) ≤ 80; omega, by show (_ : Nat) ≤ 6 * 80; omega⟩ ?_
  rintro r a' o' ⟨rfl, rfl, rfl⟩
  refine wpk hC ⟨by show (_ : Nat) ≤ 80; omega, by show (_ : Nat) ≤ 6 * 80; omega⟩ tkL_tell [182] 200 ?_
  refine ⟨by decide, ?_⟩
  rw [st_mf]
  have h1 := DN_put (D' := fun z => z < 30) hf (z := 29) (v := wr (waitC a)) (by
    unfold GT tellV
    rw [pif_f (by omega), pif_f (by omega), pif_f (by omega), pif_f (by omega), pif_f (by omega), pif_f (by omega), pif_t rfl]) (fun y _ _ => by omega)
  have h2 := DN_put (D' := fun z => z < 31) h1 (z := 30) (v := wr (rd a 26 0 8)) (by
    unfold GT tellV
    rw [pif_f (by omega), pif_f (by omega), pif_f (by omega), pif_f (by omega), pif_f (by omega), pif_f (by omega), pif_f (by omega), pif_t rfl]) (fun y _ _ => by omega)
  have h3 := DN_put (D' := fun z => z < 32) h2 (z := 31) (v := wr (rd a 27 0 1)) (by
    unfold GT tellV
    rw [pif_f (by omega), pif_f (by omega), pif_f (by omega), pif_f (by omega), pif_f (by omega), pif_f (by omega), pif_f (by omega), pif_f (by omega), pif_t rfl]) (fun y _ _ => by omega)
  have h4 : DN (GT a n1) _ (fun _ => True) := DN_eq h3 (fun y y0 y1 _ => by
    by_cases hy : y < 32
    · exact Or.inl hy
    · refine Or.inr ?_
      unfold GT tellV
      rw [pif_f (by omega), pif_f (by omega), pif_f (by omega), pif_f (by omega), pif_f (by omega), pif_f (by omega), pif_f (by omega), pif_f (by omega), pif_f (by omega)]
      rfl) (fun y _ _ _ => trivial)
  exact Wx.pick [] rfl (kk _ o h4)
end CTX
