/-! ===== tell ===== -/
theorem noT {c : Option String} {mm : Mm} {o : Int64} (h : c = none) : ∀ E m' o', ¬ tG c mm o E m' o' := fun E _ _ q => by rw [h] at q; cases q.1
theorem ix_n {z n : Int} (h0 : 0 ≤ z) (h1 : z < n) : ixC z n = none := if_pos ⟨h0, h1⟩
theorem rg_n {z a b : Int} (h0 : a ≤ z) (h1 : z ≤ b) : rgC z a b = none := if_pos ⟨h0, h1⟩
theorem or_n {a b : Int} (h : a ≤ b) : orC a b = none := if_pos h
theorem st_n {z : Int} (h : ¬ z = 0) : stC z = none := if_neg h
theorem ck_n {a b : Option String} (h : a = none) (h2 : b = none) : ck a b = none := by rw [h]; exact h2
noncomputable def tellV (a : Mm) (n z : Int) : Int :=
  pif (z < 12) (pif (z < n) (rd a 21 (30 + 0) z + pif (wantC a (30 + 0) z 3) 100 0) 0) <|
  pif (z < 16) (rd a 25 (30 + 0) (z - 12)) <| pif (z < 20) (rd a 32 0 (z - 16)) <|
  pif (z < 23) (100 * rd a 31 (27 * 0 + (z - 20)) 0 + rd a 31 (27 * 0 + (z - 20)) 1 + 1000 * rd a 31 (27 * 0 + (z - 20)) 2) <|
  pif (z < 26) (rd a 33 0 (z - 23)) <| pif (z < 29) (rd a 34 0 (z - 26)) <|
  pif (z = 29) (waitC a) <| pif (z = 30) (rd a 26 0 8) <| pif (z = 31) (rd a 27 0 1) 0
noncomputable def GT (a : Mm) (n z : Int) : Int := wr (tellV a n z)
/-- what was written so far: the places D -/
def DN (T f : Int → Int) (D : Int → Prop) : Prop := ∀ z, 0 ≤ z → z < 40 → (D z → f z = T z) ∧ (¬ D z → f z = 0)
theorem DN_put {T f : Int → Int} {D D' : Int → Prop} (h : DN T f D) {z v : Int} (hv : v = T z) (hD : ∀ y, 0 ≤ y → y < 40 → (D' y ↔ y = z ∨ D y)) : DN T (fun y => if y = z then v else f y) D' := fun y y0 y1 => by
  have h9 := h y y0 y1
  by_cases hy : y = z
  · refine ⟨fun _ => by show (if y = z then v else f y) = _; rw [if_pos hy, hv, hy], fun q => absurd ((hD y y0 y1).mpr (Or.inl hy)) q⟩
  · show (D' y → (if y = z then v else f y) = _) ∧ (_ → (if y = z then v else f y) = _)
    rw [if_neg hy]
    exact ⟨fun q => h9.1 (((hD y y0 y1).mp q).resolve_left hy), fun q => h9.2 (fun c => q ((hD y y0 y1).mpr (Or.inr c)))⟩
theorem DN_eq {T f : Int → Int} {D D' : Int → Prop} (h : DN T f D) (hD : ∀ y, 0 ≤ y → y < 40 → D' y → D y ∨ T y = 0) (hD' : ∀ y, 0 ≤ y → y < 40 → D y → D' y) : DN T f D' := fun y y0 y1 => by
  have h9 := h y y0 y1
  refine ⟨fun q => ?_, fun q => h9.2 (fun c => q (hD' y y0 y1 c))⟩
  by_cases c : D y
  · exact h9.1 c
  · rw [h9.2 c, (hD y y0 y1 q).resolve_left c]
theorem rd_n40 (a w : Mm) (j : Int) (f : Int → Int) (z : Int) : rd (mix a (fill w j f)) 40 0 z = rd w 40 0 z := by
  unfold rd
  rw [mixR _ _ (by decide), fill_ne _ _ _ (fun q => absurd q.1 (by decide))]
theorem st_mf (a w : Mm) (j : Int) (f : Int → Int) (z v : Int) : st (mix a (fill w j f)) 41 j z v = mix a (fill w j (fun y => if y = z then v else f y)) := by
  rw [st_mix _ _ (by decide), st_fill]
def LT (j t : Int) : List (Nat × AV) := [(0, xr 1 0), (1, xr 40 0), (2, xr 41 j), (3, xi t)]
section CTX
variable {p : Program} {l : Launch} {e : Env} {s : State} {m : MethodId} {args : Array Value} {below : List Frame} {meth : Method} {c : Code} {Q : State → Prop} {V : Nat → Int → Prop} {D : DD} {ad : Nat → Int → Nat} {A : Nat → Prop}
set_option maxRecDepth 100000 in
set_option maxHeartbeats 1600000 in
theorem tell_1 {a w : Mm} {j : Int} (hC : Cx V RL cL_tell 4 p (mrmT iL_tell 80) s m args meth c D ad A) (hN : wNest s) (hT : wThr A s) (hst : l.stackTraces = false) (hI : IA a) (hn : rd w 40 0 1 ≤ rd a 5 0 7)
    (kk : ∀ f o, DN (GT a (rd w 40 0 1)) f (fun z => z < 12) → Wx p l e (mrmT iL_tell 80) s m args below meth c 37 256 Q V D ad A 4 50 [(0, xr 1 0), (1, xr 40 0), (2, xr 41 j)] [] (mix a (fill w j f)) o) :
    ∀ (n i : Nat) (f : Int → Int) (o : Int64), i + n = 12 → DN (GT a (rd w 40 0 1)) f (fun z => z < (i : Int)) → Wx p l e (mrmT iL_tell 80) s m args below meth c (1 + 3 * i) (40 + 18 * i) Q V D ad A 4 7 (LT j i) [] (mix a (fill w j f)) o := by
  intro n
  induction n with
  | zero =>
    intro i f o hi hf
    have hdone : Wx p l e (mrmT iL_tell 80) s m args below meth c (1 + 3 * i) (40 + 18 * i) Q V D ad A 4 50 (LT j i) [] (mix a (fill w j f)) o :=
      Wx.widen (k := 37) (n := 256) (by omega) (by omega) (Wx.pick [0, 1, 2] rfl (kk f o (DN_eq hf (fun y _ _ h => Or.inl (by omega)) (fun y _ _ h => by omega))))
    refine wpk hC ⟨by show (_ : Nat) ≤ 80; omega, by show (_ : Nat) ≤ 6 * 80; omega⟩ tkL_tell [50] 200 ?_
    refine ⟨by decide, fun _ => hdone, fun q => ⟨fun _ => hdone, fun q2 => ?_⟩⟩
    rw [wr_of (by omega) (by omega), wr_of (by omega) (by omega)] at q2
    omega
  | succ n ih =>
    intro i f o hi hf
    refine wpk hC ⟨by show (_ : Nat) ≤ 80; omega, by show (_ : Nat) ≤ 6 * 80; omega⟩ tkL_tell [50] 200 ?_
    refine ⟨by decide, fun q => ?_, fun q => ⟨fun q2 => ?_, fun _ => ?_⟩⟩
    · rw [rd_n40, wr_rd, wr_of (by omega) (by omega)] at q
      refine Wx.widen (k := 37) (n := 256) (by omega) (by omega) (Wx.pick [0, 1, 2] rfl (kk f o (DN_eq hf (fun y y0 y1 h => ?_) (fun y _ _ h => by omega))))
      by_cases hy : y < (i : Int)
      · exact Or.inl hy
      · refine Or.inr ?_
        unfold GT tellV
        rw [pif_t h, pif_f (by omega)]
        rfl
    · rw [wr_of (by omega) (by omega), wr_of (by omega) (by omega)] at q2
      omega
    rw [rd_n40, wr_rd, wr_of (by omega) (by omega)] at q
    have i0 : (0 : Int) ≤ (i : Int) := by omega
    refine Wx.cT (y := iX10_visits) (k := 1) (avs := [_]) (rest := [_, _]) hC hN hT hst tkL_tell rfl rfl kX10_visits ⟨by decide, by decide⟩ rfl (M_visits a o i (wr_of (by omega) (by omega)) hI) (noT (ix_n i0 (by omega))) rfl (Nat.le_of_ble_eq_true rfl) rfl ⟨by show (_ : Nat) ≤ 80; omega, by show (_ : Nat) ≤ 6 * 80; omega⟩ ?_
    rintro r a' o' ⟨-, rfl, rfl, rfl⟩
    refine wpk hC ⟨by show (_ : Nat) ≤ 80; omega, by show (_ : Nat) ≤ 6 * 80; omega⟩ tkL_tell [] 200 ?_
    refine Wx.cT (y := iX10_wants) (k := 2) (avs := [_, _]) (rest := [_, _, _]) hC hN hT hst tkL_tell rfl rfl kX10_wants ⟨by decide, by decide⟩ rfl (M_wants a o i 3 (wr_of (by omega) (by omega)) rfl hI) (noT (ck_n (ix_n i0 (by omega)) rfl)) rfl (Nat.le_of_ble_eq_true rfl) rfl ⟨by show (_ : Nat) ≤ 80; omega, by show (_ : Nat) ≤ 6 * 80; omega⟩ ?_
    rintro r a' o' ⟨-, rfl, rfl, rfl⟩
    refine wpk hC ⟨by show (_ : Nat) ≤ 80; omega, by show (_ : Nat) ≤ 6 * 80; omega⟩ tkL_tell [7] 200 ?_
    have hz : ∀ v, v = tellV a (rd w 40 0 1) i → Wx p l e (mrmT iL_tell 80) s m args below meth c (1 + 3 * i + 1 + 2) (40 + 18 * i + 6 * 1 + 6 * 2) Q V D ad A 4 7 (LT j ((i : Int) + 1)) [] (st (mix a (fill w j f)) 41 j i (wr v)) o := by
      intro v hv
      rw [st_mf]
      have h9 := ih (i + 1) (fun y => if y = (i : Int) then wr v else f y) o (by omega) (DN_put hf (by rw [hv]; rfl) (fun y _ _ => by omega))
      exact h9
    have i1 : (i : Int) < 40 := by omega
    refine ⟨fun q3 => ⟨⟨i0, i1⟩, hz _ ?_⟩, fun q3 => ⟨⟨i0, i1⟩, hz _ ?_⟩⟩
    · rw [wr_bz] at q3
      unfold tellV
      rw [pif_t (by omega), pif_t (by omega), pif_f (bz_0.mp q3)]
    · rw [wr_bz] at q3
      unfold tellV
      rw [pif_t (by omega), pif_t (by omega), pif_t (Classical.not_not.mp fun z => q3 (bz_0.mpr z))]
end CTX
