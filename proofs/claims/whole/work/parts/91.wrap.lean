/-! ===== the law's wrappers, one by one (made by wip/whole/wrapgen.py) ===== -/
def wF (Es : List String) (c : Option String) (f mm : Mm) (o2 o : Int64) : FT := fun r m' o' => r = some (xi (cdX Es c)) ∧ m' = pif (c = none) f mm ∧ o' = pif (c = none) o2 o
def inE (Es : List String) (c : Option String) : Prop := ∀ E, c = some E → E ∈ Es
theorem inE_ix {Es : List String} {z n : Int} (h : xIx ∈ Es) : inE Es (ixC z n) := fun E hE => by
  unfold ixC at hE
  by_cases q : 0 ≤ z ∧ z < n
  · rw [if_pos q] at hE; cases hE
  · rw [if_neg q] at hE; cases hE; exact h
theorem inE_rg {Es : List String} {z a b : Int} (h : xIa ∈ Es) : inE Es (rgC z a b) := fun E hE => by
  unfold rgC at hE
  by_cases q : a ≤ z ∧ z ≤ b
  · rw [if_pos q] at hE; cases hE
  · rw [if_neg q] at hE; cases hE; exact h
theorem inE_or {Es : List String} {a b : Int} (h : xIa ∈ Es) : inE Es (orC a b) := fun E hE => by
  unfold orC at hE
  by_cases q : a ≤ b
  · rw [if_pos q] at hE; cases hE
  · rw [if_neg q] at hE; cases hE; exact h
theorem inE_st {Es : List String} {z : Int} (h : xIs ∈ Es) : inE Es (stC z) := fun E hE => by
  unfold stC at hE
  by_cases q : z = 0
  · rw [if_pos q] at hE; cases hE; exact h
  · rw [if_neg q] at hE; cases hE
theorem inE_ck {Es : List String} {a b : Option String} (h : inE Es a) (h2 : inE Es b) : inE Es (ck a b) := fun E hE => by
  cases a with
  | none => exact h2 E hE
  | some E' => cases hE; exact h _ rfl
theorem lk13 : lw_tbl[460]? = some (Cond.classLink RL 13 xIx) ∧ lw_tbl[461]? = some (Cond.classLink RL 15 xIa) ∧ lw_tbl[587]? = some (Cond.classLink RL 33 xIs) := by decide +kernel
theorem tBc : Cond.castable xIx xIx ∈ tB ∧ Cond.castable xIa xIa ∈ tB ∧ Cond.castable xIs xIs ∈ tB := by decide +kernel
theorem i64_0 {v : Int} (h : wr v = 0) : Int64.ofNat 0 = (I v).toInt64 := by rw [show I v = I 0 from I_of h]; rfl
theorem i64_1 {v : Int} (h : wr v = 1) : Int64.ofNat 1 = (I v).toInt64 := by rw [show I v = I 1 from I_of h]; rfl
set_option maxRecDepth 100000 in
set_option maxHeartbeats 400000 in
theorem W_place (mm : Mm) (o : Int64) (a b c9 : Int) (ha : wr a = a) (hb : wr b = b) (hc : wr c9 = c9) : MetW iL_place [(0, 7, 10, 13), (0, 7, 14, 15)] 3 [xr 1 0, xi a, xi b, xi c9] mm o (wF E0 (ck (ixC a 3) (ck (rgC b (-60) 60) (rgC c9 0 359))) (st (st mm 11 a 0 (wr b)) 11 a 1 (wr c9)) mm o o) := by
  refine MetW.of (by decide +kernel) rfl (Nat.le_of_ble_eq_true rfl) ⟨by decide, by decide⟩ ?_
  intro p l e s m args below meth c Q V D ad hC hN hT hR hst htab hok hF
  refine wpw0 (rt := 1) hC tkL_place [] 200 ?_
  refine Wx.wcall (x := iL_place) (y := iX10_place) (ks := 1) (avs := [_, _, _]) (rest := []) hC hN hT hst tkL_place rfl rfl kX10_place rfl (M_place mm o a b c9 ha hb hc) ⟨rfl, rfl⟩ rfl (Nat.le_of_ble_eq_true rfl) (by exact nol rfl) ?_ ?_
  · rintro r mm' o' ⟨hc9, rfl, rfl, rfl⟩
    refine wpw hC tkL_place hF [] 200 ?_
    exact ⟨congrArg (fun z => some (xi z)) (show (0 : Int) = cdX E0 _ by rw [hc9]; rfl), (pif_t hc9).symm, (pif_t hc9).symm⟩
  · rintro E mm' o' ⟨hE, rfl, rfl⟩ H locs ls ce q hW hS hl hce hcv hcl
    have hin : inE [xIx, xIa] (ck (ixC a 3) (ck (rgC b (-60) 60) (rgC c9 0 359))) := by repeat' first | exact inE_ix (by decide) | exact inE_rg (by decide) | exact inE_or (by decide) | exact inE_st (by decide) | refine inE_ck ?_ ?_
    have hmem := hin E hE
    simp only [List.mem_cons, List.not_mem_nil, or_false] at hmem
    rcases hmem with rfl | rfl
    · refine vx_catch (name := xIx) hC.2.2.2.1 [] ⟨0, 7, 10, 13⟩ [⟨0, 7, 14, 15⟩] htab (fun z hz => absurd hz List.not_mem_nil) rfl (by decide) (hC.2.2.2.2.1 _ (uw 460 lk13.1 rfl)) (tB_use hT.2.1 _ tBc.1) hce hcv hcl ?_
      refine hand (j := 4) hC (by decide +kernel) (by decide) hW hS hl ?_
      refine wpw hC tkL_place hF [] 200 ?_
      exact ⟨congrArg (fun z => some (xi z)) (show (1 : Int) = cdX E0 _ by rw [hE]; rfl), (pif_f (by rw [hE]; exact fun h => nomatch h)).symm, (pif_f (by rw [hE]; exact fun h => nomatch h)).symm⟩
    · refine vx_catch (name := xIa) hC.2.2.2.1 [⟨0, 7, 10, 13⟩] ⟨0, 7, 14, 15⟩ [] htab (fun z hz => by rw [List.mem_singleton.mp hz]; exact Or.inr ⟨by decide, _, (hC.2.2.2.2.1 _ (uw 460 lk13.1 rfl)), hR.1⟩) rfl (by decide) (hC.2.2.2.2.1 _ (uw 461 lk13.2.1 rfl)) (tB_use hT.2.1 _ tBc.2.1) hce hcv hcl ?_
      refine hand (j := 4) hC (by decide +kernel) (by decide) hW hS hl ?_
      refine wpw hC tkL_place hF [] 200 ?_
      exact ⟨congrArg (fun z => some (xi z)) (show (2 : Int) = cdX E0 _ by rw [hE]; rfl), (pif_f (by rw [hE]; exact fun h => nomatch h)).symm, (pif_f (by rw [hE]; exact fun h => nomatch h)).symm⟩
set_option maxRecDepth 100000 in
set_option maxHeartbeats 400000 in
theorem W_moon (mm : Mm) (o : Int64) (a : Int) (ha : wr a = a) : MetW iL_moon [(0, 9, 12, 15)] 1 [xr 1 0, xi a, xr 35 0] mm o (wF E1 (rgC a 0 29) (st mm 5 0 5 (wr a)) mm (I (rd mm 5 0 5)).toInt64 o) := by
  refine MetW.of (by decide +kernel) rfl (Nat.le_of_ble_eq_true rfl) ⟨by decide, by decide⟩ ?_
  intro p l e s m args below meth c Q V D ad hC hN hT hR hst htab hok hF
  refine wpw0 (rt := 1) hC tkL_moon [] 200 ?_
  refine Wx.wcall (x := iL_moon) (y := iX10_moon) (ks := 1) (avs := [_]) (rest := [_, _]) hC hN hT hst tkL_moon rfl rfl kX10_moon rfl (M_moon mm o a ha) ⟨rfl, rfl⟩ rfl (Nat.le_of_ble_eq_true rfl) (by exact nol rfl) ?_ ?_
  · rintro r mm' o' ⟨hc9, rfl, rfl, rfl⟩
    refine wpw hC tkL_moon hF [] 200 ?_
    exact ⟨rfl, ⟨congrArg (fun z => some (xi z)) (show (0 : Int) = cdX E1 _ by rw [hc9]; rfl), (pif_t hc9).symm, (pif_t hc9).symm⟩⟩
  · rintro E mm' o' ⟨hE, rfl, rfl⟩ H locs ls ce q hW hS hl hce hcv hcl
    have hin : inE [xIa] (rgC a 0 29) := by repeat' first | exact inE_ix (by decide) | exact inE_rg (by decide) | exact inE_or (by decide) | exact inE_st (by decide) | refine inE_ck ?_ ?_
    have hmem := hin E hE
    simp only [List.mem_cons, List.not_mem_nil, or_false] at hmem
    subst hmem
    refine vx_catch (name := xIa) hC.2.2.2.1 [] ⟨0, 9, 12, 15⟩ [] htab (fun z hz => absurd hz List.not_mem_nil) rfl (by decide) (hC.2.2.2.2.1 _ (uw 461 lk13.2.1 rfl)) (tB_use hT.2.1 _ tBc.2.1) hce hcv hcl ?_
    refine hand_n (j := 3) hC (by decide +kernel) (by decide) hW hS hl ?_
    refine wpw hC tkL_moon hF [] 200 ?_
    exact ⟨congrArg (fun z => some (xi z)) (show (1 : Int) = cdX E1 _ by rw [hE]; rfl), (pif_f (by rw [hE]; exact fun h => nomatch h)).symm, (pif_f (by rw [hE]; exact fun h => nomatch h)).symm⟩
set_option maxRecDepth 100000 in
set_option maxHeartbeats 400000 in
theorem W_weather (mm : Mm) (o : Int64) (a b c9 d9 e9 : Int) (ha : wr a = a) (hb : wr b = b) (hc : wr c9 = c9) (hd : wr d9 = d9) (he : wr e9 = e9) : MetW iL_weather [(0, 11, 14, 13), (0, 11, 18, 15)] 6 [xr 1 0, xi a, xi b, xi c9, xi d9, xi e9] mm o (wF E0 (ck (slC a b c9 d9) (ck (orC c9 d9) (rgC e9 0 50))) (wthC mm a b c9 d9 e9) mm o o) := by
  refine MetW.of (by decide +kernel) rfl (Nat.le_of_ble_eq_true rfl) ⟨by decide, by decide⟩ ?_
  intro p l e s m args below meth c Q V D ad hC hN hT hR hst htab hok hF
  refine wpw0 (rt := 1) hC tkL_weather [] 200 ?_
  refine Wx.wcall (x := iL_weather) (y := iX10_weather) (ks := 1) (avs := [_, _, _, _, _]) (rest := []) hC hN hT hst tkL_weather rfl rfl kX10_weather rfl (M_weather mm o a b c9 d9 e9 ha hb hc hd he) ⟨rfl, rfl⟩ rfl (Nat.le_of_ble_eq_true rfl) (by exact nol rfl) ?_ ?_
  · rintro r mm' o' ⟨hc9, rfl, rfl, rfl⟩
    refine wpw hC tkL_weather hF [] 200 ?_
    exact ⟨congrArg (fun z => some (xi z)) (show (0 : Int) = cdX E0 _ by rw [hc9]; rfl), (pif_t hc9).symm, (pif_t hc9).symm⟩
  · rintro E mm' o' ⟨hE, rfl, rfl⟩ H locs ls ce q hW hS hl hce hcv hcl
    have hin : inE [xIx, xIa] (ck (slC a b c9 d9) (ck (orC c9 d9) (rgC e9 0 50))) := by repeat' first | exact inE_ix (by decide) | exact inE_rg (by decide) | exact inE_or (by decide) | exact inE_st (by decide) | refine inE_ck ?_ ?_
    have hmem := hin E hE
    simp only [List.mem_cons, List.not_mem_nil, or_false] at hmem
    rcases hmem with rfl | rfl
    · refine vx_catch (name := xIx) hC.2.2.2.1 [] ⟨0, 11, 14, 13⟩ [⟨0, 11, 18, 15⟩] htab (fun z hz => absurd hz List.not_mem_nil) rfl (by decide) (hC.2.2.2.2.1 _ (uw 460 lk13.1 rfl)) (tB_use hT.2.1 _ tBc.1) hce hcv hcl ?_
      refine hand (j := 6) hC (by decide +kernel) (by decide) hW hS hl ?_
      refine wpw hC tkL_weather hF [] 200 ?_
      exact ⟨congrArg (fun z => some (xi z)) (show (1 : Int) = cdX E0 _ by rw [hE]; rfl), (pif_f (by rw [hE]; exact fun h => nomatch h)).symm, (pif_f (by rw [hE]; exact fun h => nomatch h)).symm⟩
    · refine vx_catch (name := xIa) hC.2.2.2.1 [⟨0, 11, 14, 13⟩] ⟨0, 11, 18, 15⟩ [] htab (fun z hz => by rw [List.mem_singleton.mp hz]; exact Or.inr ⟨by decide, _, (hC.2.2.2.2.1 _ (uw 460 lk13.1 rfl)), hR.1⟩) rfl (by decide) (hC.2.2.2.2.1 _ (uw 461 lk13.2.1 rfl)) (tB_use hT.2.1 _ tBc.2.1) hce hcv hcl ?_
      refine hand (j := 6) hC (by decide +kernel) (by decide) hW hS hl ?_
      refine wpw hC tkL_weather hF [] 200 ?_
      exact ⟨congrArg (fun z => some (xi z)) (show (2 : Int) = cdX E0 _ by rw [hE]; rfl), (pif_f (by rw [hE]; exact fun h => nomatch h)).symm, (pif_f (by rw [hE]; exact fun h => nomatch h)).symm⟩
set_option maxRecDepth 100000 in
set_option maxHeartbeats 400000 in
theorem W_fault (mm : Mm) (o : Int64) (a b c9 d9 : Int) (ha : wr a = a) (hb : wr b = b) (hc : wr c9 = c9) (hd : wr d9 = d9) : MetW iL_fault [(0, 9, 12, 13), (0, 9, 16, 15)] 5 [xr 1 0, xi a, xi b, xi c9, xi d9] mm o (wF E0 (ck (slC a b c9 d9) (orC c9 d9)) (fltC mm a b c9 d9) mm o o) := by
  refine MetW.of (by decide +kernel) rfl (Nat.le_of_ble_eq_true rfl) ⟨by decide, by decide⟩ ?_
  intro p l e s m args below meth c Q V D ad hC hN hT hR hst htab hok hF
  refine wpw0 (rt := 1) hC tkL_fault [] 200 ?_
  refine Wx.wcall (x := iL_fault) (y := iX10_fault) (ks := 1) (avs := [_, _, _, _]) (rest := []) hC hN hT hst tkL_fault rfl rfl kX10_fault rfl (M_fault mm o a b c9 d9 ha hb hc hd) ⟨rfl, rfl⟩ rfl (Nat.le_of_ble_eq_true rfl) (by exact nol rfl) ?_ ?_
  · rintro r mm' o' ⟨hc9, rfl, rfl, rfl⟩
    refine wpw hC tkL_fault hF [] 200 ?_
    exact ⟨congrArg (fun z => some (xi z)) (show (0 : Int) = cdX E0 _ by rw [hc9]; rfl), (pif_t hc9).symm, (pif_t hc9).symm⟩
  · rintro E mm' o' ⟨hE, rfl, rfl⟩ H locs ls ce q hW hS hl hce hcv hcl
    have hin : inE [xIx, xIa] (ck (slC a b c9 d9) (orC c9 d9)) := by repeat' first | exact inE_ix (by decide) | exact inE_rg (by decide) | exact inE_or (by decide) | exact inE_st (by decide) | refine inE_ck ?_ ?_
    have hmem := hin E hE
    simp only [List.mem_cons, List.not_mem_nil, or_false] at hmem
    rcases hmem with rfl | rfl
    · refine vx_catch (name := xIx) hC.2.2.2.1 [] ⟨0, 9, 12, 13⟩ [⟨0, 9, 16, 15⟩] htab (fun z hz => absurd hz List.not_mem_nil) rfl (by decide) (hC.2.2.2.2.1 _ (uw 460 lk13.1 rfl)) (tB_use hT.2.1 _ tBc.1) hce hcv hcl ?_
      refine hand (j := 5) hC (by decide +kernel) (by decide) hW hS hl ?_
      refine wpw hC tkL_fault hF [] 200 ?_
      exact ⟨congrArg (fun z => some (xi z)) (show (1 : Int) = cdX E0 _ by rw [hE]; rfl), (pif_f (by rw [hE]; exact fun h => nomatch h)).symm, (pif_f (by rw [hE]; exact fun h => nomatch h)).symm⟩
    · refine vx_catch (name := xIa) hC.2.2.2.1 [⟨0, 9, 12, 13⟩] ⟨0, 9, 16, 15⟩ [] htab (fun z hz => by rw [List.mem_singleton.mp hz]; exact Or.inr ⟨by decide, _, (hC.2.2.2.2.1 _ (uw 460 lk13.1 rfl)), hR.1⟩) rfl (by decide) (hC.2.2.2.2.1 _ (uw 461 lk13.2.1 rfl)) (tB_use hT.2.1 _ tBc.2.1) hce hcv hcl ?_
      refine hand (j := 5) hC (by decide +kernel) (by decide) hW hS hl ?_
      refine wpw hC tkL_fault hF [] 200 ?_
      exact ⟨congrArg (fun z => some (xi z)) (show (2 : Int) = cdX E0 _ by rw [hE]; rfl), (pif_f (by rw [hE]; exact fun h => nomatch h)).symm, (pif_f (by rw [hE]; exact fun h => nomatch h)).symm⟩
set_option maxRecDepth 100000 in
set_option maxHeartbeats 400000 in
theorem W_mount (mm : Mm) (o : Int64) (a b c9 : Int) (ha : wr a = a) (hb : wr b = b) (hc : wr c9 = c9) : MetW iL_mount [(0, 12, 15, 13), (0, 12, 19, 33)] 4 [xr 1 0, xi a, xi b, xi c9, xr 35 0] mm o (wF E2 (ck (ixC a 3) (ck (ixC b 30) (ck (ixC c9 3) (stC (bz (rd mm 26 0 8 ≤ b * 24)))))) (ufC mm a b c9) mm (I (rd mm 14 a b)).toInt64 o) := by
  refine MetW.of (by decide +kernel) rfl (Nat.le_of_ble_eq_true rfl) ⟨by decide, by decide⟩ ?_
  intro p l e s m args below meth c Q V D ad hC hN hT hR hst htab hok hF
  refine wpw0 (rt := 1) hC tkL_mount [] 200 ?_
  refine Wx.wcall (x := iL_mount) (y := iX10_mount) (ks := 1) (avs := [_, _, _]) (rest := [_, _]) hC hN hT hst tkL_mount rfl rfl kX10_mount rfl (M_mount mm o a b c9 ha hb hc) ⟨rfl, rfl⟩ rfl (Nat.le_of_ble_eq_true rfl) (by exact nol rfl) ?_ ?_
  · rintro r mm' o' ⟨hc9, rfl, rfl, rfl⟩
    refine wpw hC tkL_mount hF [] 200 ?_
    exact ⟨rfl, ⟨congrArg (fun z => some (xi z)) (show (0 : Int) = cdX E2 _ by rw [hc9]; rfl), (pif_t hc9).symm, (pif_t hc9).symm⟩⟩
  · rintro E mm' o' ⟨hE, rfl, rfl⟩ H locs ls ce q hW hS hl hce hcv hcl
    have hin : inE [xIx, xIs] (ck (ixC a 3) (ck (ixC b 30) (ck (ixC c9 3) (stC (bz (rd mm 26 0 8 ≤ b * 24)))))) := by repeat' first | exact inE_ix (by decide) | exact inE_rg (by decide) | exact inE_or (by decide) | exact inE_st (by decide) | refine inE_ck ?_ ?_
    have hmem := hin E hE
    simp only [List.mem_cons, List.not_mem_nil, or_false] at hmem
    rcases hmem with rfl | rfl
    · refine vx_catch (name := xIx) hC.2.2.2.1 [] ⟨0, 12, 15, 13⟩ [⟨0, 12, 19, 33⟩] htab (fun z hz => absurd hz List.not_mem_nil) rfl (by decide) (hC.2.2.2.2.1 _ (uw 460 lk13.1 rfl)) (tB_use hT.2.1 _ tBc.1) hce hcv hcl ?_
      refine hand (j := 5) hC (by decide +kernel) (by decide) hW hS hl ?_
      refine wpw hC tkL_mount hF [] 200 ?_
      exact ⟨congrArg (fun z => some (xi z)) (show (1 : Int) = cdX E2 _ by rw [hE]; rfl), (pif_f (by rw [hE]; exact fun h => nomatch h)).symm, (pif_f (by rw [hE]; exact fun h => nomatch h)).symm⟩
    · refine vx_catch (name := xIs) hC.2.2.2.1 [⟨0, 12, 15, 13⟩] ⟨0, 12, 19, 33⟩ [] htab (fun z hz => by rw [List.mem_singleton.mp hz]; exact Or.inr ⟨by decide, _, (hC.2.2.2.2.1 _ (uw 460 lk13.1 rfl)), hR.2.1⟩) rfl (by decide) (hC.2.2.2.2.1 _ (uw 587 lk13.2.2 rfl)) (tB_use hT.2.1 _ tBc.2.2) hce hcv hcl ?_
      refine hand (j := 5) hC (by decide +kernel) (by decide) hW hS hl ?_
      refine wpw hC tkL_mount hF [] 200 ?_
      exact ⟨congrArg (fun z => some (xi z)) (show (2 : Int) = cdX E2 _ by rw [hE]; rfl), (pif_f (by rw [hE]; exact fun h => nomatch h)).symm, (pif_f (by rw [hE]; exact fun h => nomatch h)).symm⟩
set_option maxRecDepth 100000 in
set_option maxHeartbeats 400000 in
theorem W_calibrate (mm : Mm) (o : Int64) (a b c9 : Int) (ha : wr a = a) (hb : wr b = b) (hc : wr c9 = c9) : MetW iL_calibrate [(0, 19, 22, 13)] 3 [xr 1 0, xi a, xi b, xi c9, xr 35 0] mm o (wF E0 (ck (ixC a 3) (ck (ixC b 3) (ixC c9 30))) (st mm 16 a (b * 30 + c9) (wr 1 % 2)) mm (I (bz (rd mm 16 a (b * 30 + c9) = 0))).toInt64 o) := by
  refine MetW.of (by decide +kernel) rfl (Nat.le_of_ble_eq_true rfl) ⟨by decide, by decide⟩ ?_
  intro p l e s m args below meth c Q V D ad hC hN hT hR hst htab hok hF
  refine wpw0 (rt := 1) hC tkL_calibrate [] 200 ?_
  refine Wx.wcall (x := iL_calibrate) (y := iX10_calibrate) (ks := 1) (avs := [_, _, _]) (rest := [_, _]) hC hN hT hst tkL_calibrate rfl rfl kX10_calibrate rfl (M_calibrate mm o a b c9 ha hb hc) ⟨rfl, rfl⟩ rfl (Nat.le_of_ble_eq_true rfl) (by exact nol rfl) ?_ ?_
  · rintro r mm' o' ⟨hc9, rfl, rfl, rfl⟩
    refine wpw hC tkL_calibrate hF [] 200 ?_
    have h01 : wr (bz (rd mm 16 a (b * 30 + c9) = 0)) = 0 ∨ wr (bz (rd mm 16 a (b * 30 + c9) = 0)) = 1 := (by rw [wr_bz]; exact bz01 _)
    refine ⟨fun q => ⟨rfl, ⟨congrArg (fun z => some (xi z)) (show (0 : Int) = cdX E0 _ by rw [hc9]; rfl), (pif_t hc9).symm, (i64_0 q).trans (pif_t hc9).symm⟩⟩, fun q => ⟨rfl, ⟨congrArg (fun z => some (xi z)) (show (0 : Int) = cdX E0 _ by rw [hc9]; rfl), (pif_t hc9).symm, (i64_1 (h01.resolve_left q)).trans (pif_t hc9).symm⟩⟩⟩
  · rintro E mm' o' ⟨hE, rfl, rfl⟩ H locs ls ce q hW hS hl hce hcv hcl
    have hin : inE [xIx] (ck (ixC a 3) (ck (ixC b 3) (ixC c9 30))) := by repeat' first | exact inE_ix (by decide) | exact inE_rg (by decide) | exact inE_or (by decide) | exact inE_st (by decide) | refine inE_ck ?_ ?_
    have hmem := hin E hE
    simp only [List.mem_cons, List.not_mem_nil, or_false] at hmem
    subst hmem
    refine vx_catch (name := xIx) hC.2.2.2.1 [] ⟨0, 19, 22, 13⟩ [] htab (fun z hz => absurd hz List.not_mem_nil) rfl (by decide) (hC.2.2.2.2.1 _ (uw 460 lk13.1 rfl)) (tB_use hT.2.1 _ tBc.1) hce hcv hcl ?_
    refine hand (j := 5) hC (by decide +kernel) (by decide) hW hS hl ?_
    refine wpw hC tkL_calibrate hF [] 200 ?_
    exact ⟨congrArg (fun z => some (xi z)) (show (1 : Int) = cdX E0 _ by rw [hE]; rfl), (pif_f (by rw [hE]; exact fun h => nomatch h)).symm, (pif_f (by rw [hE]; exact fun h => nomatch h)).symm⟩
set_option maxRecDepth 100000 in
set_option maxHeartbeats 400000 in
theorem W_height (mm : Mm) (o : Int64) (a b c9 d9 e9 : Int) (ha : wr a = a) (hb : wr b = b) (hc : wr c9 = c9) (hd : wr d9 = d9) (he : wr e9 = e9) : MetW iL_height [(0, 16, 19, 13), (0, 16, 23, 15)] 6 [xr 1 0, xi a, xi b, xi c9, xi d9, xi e9, xr 35 0] mm o (wF E0 (ck (slC a b c9 c9) (ck (rgC d9 0 359) (rgC e9 (-90) 90))) (mm) mm (I (hgtC mm a (b * 24 + c9) d9 e9)).toInt64 o) := by
  refine MetW.of (by decide +kernel) rfl (Nat.le_of_ble_eq_true rfl) ⟨by decide, by decide⟩ ?_
  intro p l e s m args below meth c Q V D ad hC hN hT hR hst htab hok hF
  refine wpw0 (rt := 1) hC tkL_height [] 200 ?_
  refine Wx.wcall (x := iL_height) (y := iX10_height) (ks := 1) (avs := [_, _, _, _, _]) (rest := [_, _]) hC hN hT hst tkL_height rfl rfl kX10_height rfl (M_height mm o a b c9 d9 e9 ha hb hc hd he) ⟨rfl, rfl⟩ rfl (Nat.le_of_ble_eq_true rfl) (by exact nol rfl) ?_ ?_
  · rintro r mm' o' ⟨hc9, rfl, rfl, rfl⟩
    refine wpw hC tkL_height hF [] 200 ?_
    exact ⟨rfl, ⟨congrArg (fun z => some (xi z)) (show (0 : Int) = cdX E0 _ by rw [hc9]; rfl), (pif_t hc9).symm, (pif_t hc9).symm⟩⟩
  · rintro E mm' o' ⟨hE, rfl, rfl⟩ H locs ls ce q hW hS hl hce hcv hcl
    have hin : inE [xIx, xIa] (ck (slC a b c9 c9) (ck (rgC d9 0 359) (rgC e9 (-90) 90))) := by repeat' first | exact inE_ix (by decide) | exact inE_rg (by decide) | exact inE_or (by decide) | exact inE_st (by decide) | refine inE_ck ?_ ?_
    have hmem := hin E hE
    simp only [List.mem_cons, List.not_mem_nil, or_false] at hmem
    rcases hmem with rfl | rfl
    · refine vx_catch (name := xIx) hC.2.2.2.1 [] ⟨0, 16, 19, 13⟩ [⟨0, 16, 23, 15⟩] htab (fun z hz => absurd hz List.not_mem_nil) rfl (by decide) (hC.2.2.2.2.1 _ (uw 460 lk13.1 rfl)) (tB_use hT.2.1 _ tBc.1) hce hcv hcl ?_
      refine hand (j := 7) hC (by decide +kernel) (by decide) hW hS hl ?_
      refine wpw hC tkL_height hF [] 200 ?_
      exact ⟨congrArg (fun z => some (xi z)) (show (1 : Int) = cdX E0 _ by rw [hE]; rfl), (pif_f (by rw [hE]; exact fun h => nomatch h)).symm, (pif_f (by rw [hE]; exact fun h => nomatch h)).symm⟩
    · refine vx_catch (name := xIa) hC.2.2.2.1 [⟨0, 16, 19, 13⟩] ⟨0, 16, 23, 15⟩ [] htab (fun z hz => by rw [List.mem_singleton.mp hz]; exact Or.inr ⟨by decide, _, (hC.2.2.2.2.1 _ (uw 460 lk13.1 rfl)), hR.1⟩) rfl (by decide) (hC.2.2.2.2.1 _ (uw 461 lk13.2.1 rfl)) (tB_use hT.2.1 _ tBc.2.1) hce hcv hcl ?_
      refine hand (j := 7) hC (by decide +kernel) (by decide) hW hS hl ?_
      refine wpw hC tkL_height hF [] 200 ?_
      exact ⟨congrArg (fun z => some (xi z)) (show (2 : Int) = cdX E0 _ by rw [hE]; rfl), (pif_f (by rw [hE]; exact fun h => nomatch h)).symm, (pif_f (by rw [hE]; exact fun h => nomatch h)).symm⟩
set_option maxRecDepth 100000 in
set_option maxHeartbeats 400000 in
theorem W_light (mm : Mm) (o : Int64) (a : Int) (ha : wr a = a) : MetW iL_light [(0, 9, 12, 13)] 1 [xr 1 0, xi a, xr 35 0] mm o (wF E0 (ixC a 30) (mm) mm (I (moonC mm a)).toInt64 o) := by
  refine MetW.of (by decide +kernel) rfl (Nat.le_of_ble_eq_true rfl) ⟨by decide, by decide⟩ ?_
  intro p l e s m args below meth c Q V D ad hC hN hT hR hst htab hok hF
  refine wpw0 (rt := 1) hC tkL_light [] 200 ?_
  refine Wx.wcall (x := iL_light) (y := iX10_light) (ks := 1) (avs := [_]) (rest := [_, _]) hC hN hT hst tkL_light rfl rfl kX10_light rfl (M_light mm o a ha) ⟨rfl, rfl⟩ rfl (Nat.le_of_ble_eq_true rfl) (by exact nol rfl) ?_ ?_
  · rintro r mm' o' ⟨hc9, rfl, rfl, rfl⟩
    refine wpw hC tkL_light hF [] 200 ?_
    exact ⟨rfl, ⟨congrArg (fun z => some (xi z)) (show (0 : Int) = cdX E0 _ by rw [hc9]; rfl), (pif_t hc9).symm, (pif_t hc9).symm⟩⟩
  · rintro E mm' o' ⟨hE, rfl, rfl⟩ H locs ls ce q hW hS hl hce hcv hcl
    have hin : inE [xIx] (ixC a 30) := by repeat' first | exact inE_ix (by decide) | exact inE_rg (by decide) | exact inE_or (by decide) | exact inE_st (by decide) | refine inE_ck ?_ ?_
    have hmem := hin E hE
    simp only [List.mem_cons, List.not_mem_nil, or_false] at hmem
    subst hmem
    refine vx_catch (name := xIx) hC.2.2.2.1 [] ⟨0, 9, 12, 13⟩ [] htab (fun z hz => absurd hz List.not_mem_nil) rfl (by decide) (hC.2.2.2.2.1 _ (uw 460 lk13.1 rfl)) (tB_use hT.2.1 _ tBc.1) hce hcv hcl ?_
    refine hand_n (j := 3) hC (by decide +kernel) (by decide) hW hS hl ?_
    refine wpw hC tkL_light hF [] 200 ?_
    exact ⟨congrArg (fun z => some (xi z)) (show (1 : Int) = cdX E0 _ by rw [hE]; rfl), (pif_f (by rw [hE]; exact fun h => nomatch h)).symm, (pif_f (by rw [hE]; exact fun h => nomatch h)).symm⟩
set_option maxRecDepth 100000 in
set_option maxHeartbeats 400000 in
theorem W_seeing (mm : Mm) (o : Int64) (a b c9 : Int) (ha : wr a = a) (hb : wr b = b) (hc : wr c9 = c9) : MetW iL_seeing [(0, 12, 15, 13)] 4 [xr 1 0, xi a, xi b, xi c9, xr 35 0] mm o (wF E0 (slC a b c9 c9) (mm) mm (I (seenC mm a (b * 24 + c9))).toInt64 o) := by
  refine MetW.of (by decide +kernel) rfl (Nat.le_of_ble_eq_true rfl) ⟨by decide, by decide⟩ ?_
  intro p l e s m args below meth c Q V D ad hC hN hT hR hst htab hok hF
  refine wpw0 (rt := 1) hC tkL_seeing [] 200 ?_
  refine Wx.wcall (x := iL_seeing) (y := iX10_seeing) (ks := 1) (avs := [_, _, _]) (rest := [_, _]) hC hN hT hst tkL_seeing rfl rfl kX10_seeing rfl (M_seeing mm o a b c9 ha hb hc) ⟨rfl, rfl⟩ rfl (Nat.le_of_ble_eq_true rfl) (by exact nol rfl) ?_ ?_
  · rintro r mm' o' ⟨hc9, rfl, rfl, rfl⟩
    refine wpw hC tkL_seeing hF [] 200 ?_
    exact ⟨rfl, ⟨congrArg (fun z => some (xi z)) (show (0 : Int) = cdX E0 _ by rw [hc9]; rfl), (pif_t hc9).symm, (pif_t hc9).symm⟩⟩
  · rintro E mm' o' ⟨hE, rfl, rfl⟩ H locs ls ce q hW hS hl hce hcv hcl
    have hin : inE [xIx] (slC a b c9 c9) := by repeat' first | exact inE_ix (by decide) | exact inE_rg (by decide) | exact inE_or (by decide) | exact inE_st (by decide) | refine inE_ck ?_ ?_
    have hmem := hin E hE
    simp only [List.mem_cons, List.not_mem_nil, or_false] at hmem
    subst hmem
    refine vx_catch (name := xIx) hC.2.2.2.1 [] ⟨0, 12, 15, 13⟩ [] htab (fun z hz => absurd hz List.not_mem_nil) rfl (by decide) (hC.2.2.2.2.1 _ (uw 460 lk13.1 rfl)) (tB_use hT.2.1 _ tBc.1) hce hcv hcl ?_
    refine hand (j := 5) hC (by decide +kernel) (by decide) hW hS hl ?_
    refine wpw hC tkL_seeing hF [] 200 ?_
    exact ⟨congrArg (fun z => some (xi z)) (show (1 : Int) = cdX E0 _ by rw [hE]; rfl), (pif_f (by rw [hE]; exact fun h => nomatch h)).symm, (pif_f (by rw [hE]; exact fun h => nomatch h)).symm⟩
set_option maxRecDepth 100000 in
set_option maxHeartbeats 400000 in
theorem W_share (mm : Mm) (o : Int64) (a b : Int) (ha : wr a = a) (hb : wr b = b) : MetW iL_share [(0, 10, 13, 13), (0, 10, 17, 15)] 2 [xr 1 0, xi a, xi b, xr 35 0] mm o (wF E0 (ck (ixC a 4) (rgC b 0 100)) (st mm 7 0 a (wr b)) mm (I (rd mm 7 0 a)).toInt64 o) := by
  refine MetW.of (by decide +kernel) rfl (Nat.le_of_ble_eq_true rfl) ⟨by decide, by decide⟩ ?_
  intro p l e s m args below meth c Q V D ad hC hN hT hR hst htab hok hF
  refine wpw0 (rt := 1) hC tkL_share [] 200 ?_
  refine Wx.wcall (x := iL_share) (y := iX10_share) (ks := 1) (avs := [_, _]) (rest := [_, _]) hC hN hT hst tkL_share rfl rfl kX10_share rfl (M_share mm o a b ha hb) ⟨rfl, rfl⟩ rfl (Nat.le_of_ble_eq_true rfl) (by exact nol rfl) ?_ ?_
  · rintro r mm' o' ⟨hc9, rfl, rfl, rfl⟩
    refine wpw hC tkL_share hF [] 200 ?_
    exact ⟨rfl, ⟨congrArg (fun z => some (xi z)) (show (0 : Int) = cdX E0 _ by rw [hc9]; rfl), (pif_t hc9).symm, (pif_t hc9).symm⟩⟩
  · rintro E mm' o' ⟨hE, rfl, rfl⟩ H locs ls ce q hW hS hl hce hcv hcl
    have hin : inE [xIx, xIa] (ck (ixC a 4) (rgC b 0 100)) := by repeat' first | exact inE_ix (by decide) | exact inE_rg (by decide) | exact inE_or (by decide) | exact inE_st (by decide) | refine inE_ck ?_ ?_
    have hmem := hin E hE
    simp only [List.mem_cons, List.not_mem_nil, or_false] at hmem
    rcases hmem with rfl | rfl
    · refine vx_catch (name := xIx) hC.2.2.2.1 [] ⟨0, 10, 13, 13⟩ [⟨0, 10, 17, 15⟩] htab (fun z hz => absurd hz List.not_mem_nil) rfl (by decide) (hC.2.2.2.2.1 _ (uw 460 lk13.1 rfl)) (tB_use hT.2.1 _ tBc.1) hce hcv hcl ?_
      refine hand (j := 4) hC (by decide +kernel) (by decide) hW hS hl ?_
      refine wpw hC tkL_share hF [] 200 ?_
      exact ⟨congrArg (fun z => some (xi z)) (show (1 : Int) = cdX E0 _ by rw [hE]; rfl), (pif_f (by rw [hE]; exact fun h => nomatch h)).symm, (pif_f (by rw [hE]; exact fun h => nomatch h)).symm⟩
    · refine vx_catch (name := xIa) hC.2.2.2.1 [⟨0, 10, 13, 13⟩] ⟨0, 10, 17, 15⟩ [] htab (fun z hz => by rw [List.mem_singleton.mp hz]; exact Or.inr ⟨by decide, _, (hC.2.2.2.2.1 _ (uw 460 lk13.1 rfl)), hR.1⟩) rfl (by decide) (hC.2.2.2.2.1 _ (uw 461 lk13.2.1 rfl)) (tB_use hT.2.1 _ tBc.2.1) hce hcv hcl ?_
      refine hand (j := 4) hC (by decide +kernel) (by decide) hW hS hl ?_
      refine wpw hC tkL_share hF [] 200 ?_
      exact ⟨congrArg (fun z => some (xi z)) (show (2 : Int) = cdX E0 _ by rw [hE]; rfl), (pif_f (by rw [hE]; exact fun h => nomatch h)).symm, (pif_f (by rw [hE]; exact fun h => nomatch h)).symm⟩
set_option maxRecDepth 100000 in
set_option maxHeartbeats 400000 in
theorem W_proposal (mm : Mm) (o : Int64) (a b c9 d9 : Int) (ha : wr a = a) (hb : wr b = b) (hc : wr c9 = c9) (hd : wr d9 = d9) (hI : IA mm) : MetW iL_proposal [(0, 14, 17, 13), (0, 14, 21, 15), (0, 14, 25, 33)] 5 [xr 1 0, xi a, xi b, xi c9, xi d9, xr 35 0] mm o (wF E0 (ck (ixC a 4) (ck (rgC b 0 9) (ck (rgC c9 0 100) (ck (rgC d9 0 30) (stC (bz (rd mm 5 0 6 < 8))))))) (proC mm a b c9 d9) mm (I (rd mm 5 0 6)).toInt64 o) := by
  refine MetW.of (by decide +kernel) rfl (Nat.le_of_ble_eq_true rfl) ⟨by decide, by decide⟩ ?_
  intro p l e s m args below meth c Q V D ad hC hN hT hR hst htab hok hF
  refine wpw0 (rt := 1) hC tkL_proposal [] 200 ?_
  refine Wx.wcall (x := iL_proposal) (y := iX10_proposal) (ks := 1) (avs := [_, _, _, _]) (rest := [_, _]) hC hN hT hst tkL_proposal rfl rfl kX10_proposal rfl (M_proposal mm o a b c9 d9 ha hb hc hd hI) ⟨rfl, rfl⟩ rfl (Nat.le_of_ble_eq_true rfl) (by exact nol rfl) ?_ ?_
  · rintro r mm' o' ⟨hc9, rfl, rfl, rfl⟩
    refine wpw hC tkL_proposal hF [] 200 ?_
    exact ⟨rfl, ⟨congrArg (fun z => some (xi z)) (show (0 : Int) = cdX E0 _ by rw [hc9]; rfl), (pif_t hc9).symm, (pif_t hc9).symm⟩⟩
  · rintro E mm' o' ⟨hE, rfl, rfl⟩ H locs ls ce q hW hS hl hce hcv hcl
    have hin : inE [xIx, xIa, xIs] (ck (ixC a 4) (ck (rgC b 0 9) (ck (rgC c9 0 100) (ck (rgC d9 0 30) (stC (bz (rd mm 5 0 6 < 8))))))) := by repeat' first | exact inE_ix (by decide) | exact inE_rg (by decide) | exact inE_or (by decide) | exact inE_st (by decide) | refine inE_ck ?_ ?_
    have hmem := hin E hE
    simp only [List.mem_cons, List.not_mem_nil, or_false] at hmem
    rcases hmem with rfl | rfl | rfl
    · refine vx_catch (name := xIx) hC.2.2.2.1 [] ⟨0, 14, 17, 13⟩ [⟨0, 14, 21, 15⟩, ⟨0, 14, 25, 33⟩] htab (fun z hz => absurd hz List.not_mem_nil) rfl (by decide) (hC.2.2.2.2.1 _ (uw 460 lk13.1 rfl)) (tB_use hT.2.1 _ tBc.1) hce hcv hcl ?_
      refine hand (j := 6) hC (by decide +kernel) (by decide) hW hS hl ?_
      refine wpw hC tkL_proposal hF [] 200 ?_
      exact ⟨congrArg (fun z => some (xi z)) (show (1 : Int) = cdX E0 _ by rw [hE]; rfl), (pif_f (by rw [hE]; exact fun h => nomatch h)).symm, (pif_f (by rw [hE]; exact fun h => nomatch h)).symm⟩
    · refine vx_catch (name := xIa) hC.2.2.2.1 [⟨0, 14, 17, 13⟩] ⟨0, 14, 21, 15⟩ [⟨0, 14, 25, 33⟩] htab (fun z hz => by rw [List.mem_singleton.mp hz]; exact Or.inr ⟨by decide, _, (hC.2.2.2.2.1 _ (uw 460 lk13.1 rfl)), hR.1⟩) rfl (by decide) (hC.2.2.2.2.1 _ (uw 461 lk13.2.1 rfl)) (tB_use hT.2.1 _ tBc.2.1) hce hcv hcl ?_
      refine hand (j := 6) hC (by decide +kernel) (by decide) hW hS hl ?_
      refine wpw hC tkL_proposal hF [] 200 ?_
      exact ⟨congrArg (fun z => some (xi z)) (show (2 : Int) = cdX E0 _ by rw [hE]; rfl), (pif_f (by rw [hE]; exact fun h => nomatch h)).symm, (pif_f (by rw [hE]; exact fun h => nomatch h)).symm⟩
    · refine vx_catch (name := xIs) hC.2.2.2.1 [⟨0, 14, 17, 13⟩, ⟨0, 14, 21, 15⟩] ⟨0, 14, 25, 33⟩ [] htab (fun z hz => by
        rcases List.mem_cons.mp hz with rfl | hz
        · exact Or.inr ⟨by decide, _, (hC.2.2.2.2.1 _ (uw 460 lk13.1 rfl)), hR.2.1⟩
        · rw [List.mem_singleton.mp hz]; exact Or.inr ⟨by decide, _, (hC.2.2.2.2.1 _ (uw 461 lk13.2.1 rfl)), hR.2.2⟩) rfl (by decide) (hC.2.2.2.2.1 _ (uw 587 lk13.2.2 rfl)) (tB_use hT.2.1 _ tBc.2.2) hce hcv hcl ?_
      refine hand (j := 6) hC (by decide +kernel) (by decide) hW hS hl ?_
      refine wpw hC tkL_proposal hF [] 200 ?_
      exact ⟨congrArg (fun z => some (xi z)) (show (3 : Int) = cdX E0 _ by rw [hE]; rfl), (pif_f (by rw [hE]; exact fun h => nomatch h)).symm, (pif_f (by rw [hE]; exact fun h => nomatch h)).symm⟩
set_option maxRecDepth 100000 in
set_option maxHeartbeats 400000 in
theorem W_target (mm : Mm) (o : Int64) (a b c0 d0 e0 f0 g0 h0 v0 : Int) (ha : wr a = a) (hb : wr b = b) (hc : wr c0 = c0) (hd : wr d0 = d0) (he : wr e0 = e0) (hf : wr f0 = f0) (hg : wr g0 = g0) (hh : wr h0 = h0) (hv : wr v0 = v0) (hI : IA mm) : MetW iL_target [(0, 24, 27, 13), (0, 24, 31, 15), (0, 24, 35, 33)] 10 [xr 1 0, xi a, xi b, xi c0, xi d0, xi e0, xi f0, xi g0, xi h0, xi v0, xr 35 0] mm o (wF E0 (ck (ixC a (rd mm 5 0 6)) (ck (ixC e0 3) (ck (ck (rgC b 0 359) (rgC c0 (-90) 90)) (ck (rgC d0 1 6) (ck (rgC f0 0 90) (ck (rgC g0 0 100) (ck (rgC h0 1 50) (ck (rgC v0 1 10) (stC (bz (rd mm 5 0 7 < 24))))))))))) (tgC mm a b c0 d0 e0 f0 g0 h0 v0) mm (I (rd mm 5 0 7)).toInt64 o) := by
  refine MetW.of (by decide +kernel) rfl (Nat.le_of_ble_eq_true rfl) ⟨by decide, by decide⟩ ?_
  intro p l e s m args below meth c Q V D ad hC hN hT hR hst htab hok hF
  refine wpw0 (rt := 1) hC tkL_target [] 200 ?_
  refine Wx.wcall (x := iL_target) (y := iX10_target) (ks := 1) (avs := [_, _, _, _, _, _, _, _, _]) (rest := [_, _]) hC hN hT hst tkL_target rfl rfl kX10_target rfl (M_target mm o a b c0 d0 e0 f0 g0 h0 v0 ha hb hc hd he hf hg hh hv hI) ⟨rfl, rfl⟩ rfl (Nat.le_of_ble_eq_true rfl) (by exact nol rfl) ?_ ?_
  · rintro r mm' o' ⟨hc9, rfl, rfl, rfl⟩
    refine wpw hC tkL_target hF [] 200 ?_
    exact ⟨rfl, ⟨congrArg (fun z => some (xi z)) (show (0 : Int) = cdX E0 _ by rw [hc9]; rfl), (pif_t hc9).symm, (pif_t hc9).symm⟩⟩
  · rintro E mm' o' ⟨hE, rfl, rfl⟩ H locs ls ce q hW hS hl hce hcv hcl
    have hin : inE [xIx, xIa, xIs] (ck (ixC a (rd mm 5 0 6)) (ck (ixC e0 3) (ck (ck (rgC b 0 359) (rgC c0 (-90) 90)) (ck (rgC d0 1 6) (ck (rgC f0 0 90) (ck (rgC g0 0 100) (ck (rgC h0 1 50) (ck (rgC v0 1 10) (stC (bz (rd mm 5 0 7 < 24))))))))))) := by repeat' first | exact inE_ix (by decide) | exact inE_rg (by decide) | exact inE_or (by decide) | exact inE_st (by decide) | refine inE_ck ?_ ?_
    have hmem := hin E hE
    simp only [List.mem_cons, List.not_mem_nil, or_false] at hmem
    rcases hmem with rfl | rfl | rfl
    · refine vx_catch (name := xIx) hC.2.2.2.1 [] ⟨0, 24, 27, 13⟩ [⟨0, 24, 31, 15⟩, ⟨0, 24, 35, 33⟩] htab (fun z hz => absurd hz List.not_mem_nil) rfl (by decide) (hC.2.2.2.2.1 _ (uw 460 lk13.1 rfl)) (tB_use hT.2.1 _ tBc.1) hce hcv hcl ?_
      refine hand (j := 11) hC (by decide +kernel) (by decide) hW hS hl ?_
      refine wpw hC tkL_target hF [] 200 ?_
      exact ⟨congrArg (fun z => some (xi z)) (show (1 : Int) = cdX E0 _ by rw [hE]; rfl), (pif_f (by rw [hE]; exact fun h => nomatch h)).symm, (pif_f (by rw [hE]; exact fun h => nomatch h)).symm⟩
    · refine vx_catch (name := xIa) hC.2.2.2.1 [⟨0, 24, 27, 13⟩] ⟨0, 24, 31, 15⟩ [⟨0, 24, 35, 33⟩] htab (fun z hz => by rw [List.mem_singleton.mp hz]; exact Or.inr ⟨by decide, _, (hC.2.2.2.2.1 _ (uw 460 lk13.1 rfl)), hR.1⟩) rfl (by decide) (hC.2.2.2.2.1 _ (uw 461 lk13.2.1 rfl)) (tB_use hT.2.1 _ tBc.2.1) hce hcv hcl ?_
      refine hand (j := 11) hC (by decide +kernel) (by decide) hW hS hl ?_
      refine wpw hC tkL_target hF [] 200 ?_
      exact ⟨congrArg (fun z => some (xi z)) (show (2 : Int) = cdX E0 _ by rw [hE]; rfl), (pif_f (by rw [hE]; exact fun h => nomatch h)).symm, (pif_f (by rw [hE]; exact fun h => nomatch h)).symm⟩
    · refine vx_catch (name := xIs) hC.2.2.2.1 [⟨0, 24, 27, 13⟩, ⟨0, 24, 31, 15⟩] ⟨0, 24, 35, 33⟩ [] htab (fun z hz => by
        rcases List.mem_cons.mp hz with rfl | hz
        · exact Or.inr ⟨by decide, _, (hC.2.2.2.2.1 _ (uw 460 lk13.1 rfl)), hR.2.1⟩
        · rw [List.mem_singleton.mp hz]; exact Or.inr ⟨by decide, _, (hC.2.2.2.2.1 _ (uw 461 lk13.2.1 rfl)), hR.2.2⟩) rfl (by decide) (hC.2.2.2.2.1 _ (uw 587 lk13.2.2 rfl)) (tB_use hT.2.1 _ tBc.2.2) hce hcv hcl ?_
      refine hand (j := 11) hC (by decide +kernel) (by decide) hW hS hl ?_
      refine wpw hC tkL_target hF [] 200 ?_
      exact ⟨congrArg (fun z => some (xi z)) (show (3 : Int) = cdX E0 _ by rw [hE]; rfl), (pif_f (by rw [hE]; exact fun h => nomatch h)).symm, (pif_f (by rw [hE]; exact fun h => nomatch h)).symm⟩
set_option maxRecDepth 100000 in
set_option maxHeartbeats 400000 in
theorem W_series (mm : Mm) (o : Int64) (a b c9 d9 : Int) (ha : wr a = a) (hb : wr b = b) (hc : wr c9 = c9) (hd : wr d9 = d9) (hI : IA mm) : MetW iL_series [(0, 9, 12, 13), (0, 9, 16, 15), (0, 9, 20, 33)] 6 [xr 1 0, xi a, xi b, xi c9, xi d9] mm o (wF E0 (ck (ixC a (rd mm 5 0 7)) (ck (ixC b 30) (ck (rgC c9 1 30) (ck (rgC d9 0 5) (ck (rgC (2 * d9) 0 (c9 - 1)) (stC (bz (rd mm 18 a 12 = 0)))))))) (serC mm a b c9 d9) mm o o) := by
  refine MetW.of (by decide +kernel) rfl (Nat.le_of_ble_eq_true rfl) ⟨by decide, by decide⟩ ?_
  intro p l e s m args below meth c Q V D ad hC hN hT hR hst htab hok hF
  refine wpw0 (rt := 1) hC tkL_series [] 200 ?_
  refine Wx.wcall (x := iL_series) (y := iX10_series) (ks := 1) (avs := [_, _, _, _]) (rest := []) hC hN hT hst tkL_series rfl rfl kX10_series rfl (M_series mm o a b c9 d9 ha hb hc hd hI) ⟨rfl, rfl⟩ rfl (Nat.le_of_ble_eq_true rfl) (by exact nol rfl) ?_ ?_
  · rintro r mm' o' ⟨hc9, rfl, rfl, rfl⟩
    refine wpw hC tkL_series hF [] 200 ?_
    exact ⟨congrArg (fun z => some (xi z)) (show (0 : Int) = cdX E0 _ by rw [hc9]; rfl), (pif_t hc9).symm, (pif_t hc9).symm⟩
  · rintro E mm' o' ⟨hE, rfl, rfl⟩ H locs ls ce q hW hS hl hce hcv hcl
    have hin : inE [xIx, xIa, xIs] (ck (ixC a (rd mm 5 0 7)) (ck (ixC b 30) (ck (rgC c9 1 30) (ck (rgC d9 0 5) (ck (rgC (2 * d9) 0 (c9 - 1)) (stC (bz (rd mm 18 a 12 = 0)))))))) := by repeat' first | exact inE_ix (by decide) | exact inE_rg (by decide) | exact inE_or (by decide) | exact inE_st (by decide) | refine inE_ck ?_ ?_
    have hmem := hin E hE
    simp only [List.mem_cons, List.not_mem_nil, or_false] at hmem
    rcases hmem with rfl | rfl | rfl
    · refine vx_catch (name := xIx) hC.2.2.2.1 [] ⟨0, 9, 12, 13⟩ [⟨0, 9, 16, 15⟩, ⟨0, 9, 20, 33⟩] htab (fun z hz => absurd hz List.not_mem_nil) rfl (by decide) (hC.2.2.2.2.1 _ (uw 460 lk13.1 rfl)) (tB_use hT.2.1 _ tBc.1) hce hcv hcl ?_
      refine hand (j := 5) hC (by decide +kernel) (by decide) hW hS hl ?_
      refine wpw hC tkL_series hF [] 200 ?_
      exact ⟨congrArg (fun z => some (xi z)) (show (1 : Int) = cdX E0 _ by rw [hE]; rfl), (pif_f (by rw [hE]; exact fun h => nomatch h)).symm, (pif_f (by rw [hE]; exact fun h => nomatch h)).symm⟩
    · refine vx_catch (name := xIa) hC.2.2.2.1 [⟨0, 9, 12, 13⟩] ⟨0, 9, 16, 15⟩ [⟨0, 9, 20, 33⟩] htab (fun z hz => by rw [List.mem_singleton.mp hz]; exact Or.inr ⟨by decide, _, (hC.2.2.2.2.1 _ (uw 460 lk13.1 rfl)), hR.1⟩) rfl (by decide) (hC.2.2.2.2.1 _ (uw 461 lk13.2.1 rfl)) (tB_use hT.2.1 _ tBc.2.1) hce hcv hcl ?_
      refine hand (j := 5) hC (by decide +kernel) (by decide) hW hS hl ?_
      refine wpw hC tkL_series hF [] 200 ?_
      exact ⟨congrArg (fun z => some (xi z)) (show (2 : Int) = cdX E0 _ by rw [hE]; rfl), (pif_f (by rw [hE]; exact fun h => nomatch h)).symm, (pif_f (by rw [hE]; exact fun h => nomatch h)).symm⟩
    · refine vx_catch (name := xIs) hC.2.2.2.1 [⟨0, 9, 12, 13⟩, ⟨0, 9, 16, 15⟩] ⟨0, 9, 20, 33⟩ [] htab (fun z hz => by
        rcases List.mem_cons.mp hz with rfl | hz
        · exact Or.inr ⟨by decide, _, (hC.2.2.2.2.1 _ (uw 460 lk13.1 rfl)), hR.2.1⟩
        · rw [List.mem_singleton.mp hz]; exact Or.inr ⟨by decide, _, (hC.2.2.2.2.1 _ (uw 461 lk13.2.1 rfl)), hR.2.2⟩) rfl (by decide) (hC.2.2.2.2.1 _ (uw 587 lk13.2.2 rfl)) (tB_use hT.2.1 _ tBc.2.2) hce hcv hcl ?_
      refine hand (j := 5) hC (by decide +kernel) (by decide) hW hS hl ?_
      refine wpw hC tkL_series hF [] 200 ?_
      exact ⟨congrArg (fun z => some (xi z)) (show (3 : Int) = cdX E0 _ by rw [hE]; rfl), (pif_f (by rw [hE]; exact fun h => nomatch h)).symm, (pif_f (by rw [hE]; exact fun h => nomatch h)).symm⟩
set_option maxRecDepth 100000 in
set_option maxHeartbeats 400000 in
theorem W_alert (mm : Mm) (o : Int64) (a b c0 d0 e0 f0 g0 h0 v0 : Int) (ha : wr a = a) (hb : wr b = b) (hc : wr c0 = c0) (hd : wr d0 = d0) (he : wr e0 = e0) (hf : wr f0 = f0) (hg : wr g0 = g0) (hh : wr h0 = h0) (hv : wr v0 = v0) (hI : IA mm) : MetW iL_alert [(0, 24, 27, 13), (0, 24, 31, 15), (0, 24, 35, 33)] 11 [xr 1 0, xi a, xi b, xi c0, xi d0, xi e0, xi f0, xi g0, xi h0, xi v0, xr 35 0] mm o (wF E0 (ck (ixC a 4) (ck (ixC f0 3) (ck (ixC g0 30) (ck (ixC h0 24) (ck (ixC v0 24) (ck (rgC b 1 9) (ck (ck (rgC c0 0 359) (rgC d0 (-90) 90)) (ck (rgC e0 1 6) (ck (orC h0 v0) (stC (bz (rd mm 5 0 8 < 10)))))))))))) (alC mm a b c0 d0 e0 f0 g0 h0 v0) mm (I (rd mm 5 0 8)).toInt64 o) := by
  refine MetW.of (by decide +kernel) rfl (Nat.le_of_ble_eq_true rfl) ⟨by decide, by decide⟩ ?_
  intro p l e s m args below meth c Q V D ad hC hN hT hR hst htab hok hF
  refine wpw0 (rt := 1) hC tkL_alert [] 200 ?_
  refine Wx.wcall (x := iL_alert) (y := iX10_alert) (ks := 1) (avs := [_, _, _, _, _, _, _, _, _]) (rest := [_, _]) hC hN hT hst tkL_alert rfl rfl kX10_alert rfl (M_alert mm o a b c0 d0 e0 f0 g0 h0 v0 ha hb hc hd he hf hg hh hv hI) ⟨rfl, rfl⟩ rfl (Nat.le_of_ble_eq_true rfl) (by exact nol rfl) ?_ ?_
  · rintro r mm' o' ⟨hc9, rfl, rfl, rfl⟩
    refine wpw hC tkL_alert hF [] 200 ?_
    exact ⟨rfl, ⟨congrArg (fun z => some (xi z)) (show (0 : Int) = cdX E0 _ by rw [hc9]; rfl), (pif_t hc9).symm, (pif_t hc9).symm⟩⟩
  · rintro E mm' o' ⟨hE, rfl, rfl⟩ H locs ls ce q hW hS hl hce hcv hcl
    have hin : inE [xIx, xIa, xIs] (ck (ixC a 4) (ck (ixC f0 3) (ck (ixC g0 30) (ck (ixC h0 24) (ck (ixC v0 24) (ck (rgC b 1 9) (ck (ck (rgC c0 0 359) (rgC d0 (-90) 90)) (ck (rgC e0 1 6) (ck (orC h0 v0) (stC (bz (rd mm 5 0 8 < 10)))))))))))) := by repeat' first | exact inE_ix (by decide) | exact inE_rg (by decide) | exact inE_or (by decide) | exact inE_st (by decide) | refine inE_ck ?_ ?_
    have hmem := hin E hE
    simp only [List.mem_cons, List.not_mem_nil, or_false] at hmem
    rcases hmem with rfl | rfl | rfl
    · refine vx_catch (name := xIx) hC.2.2.2.1 [] ⟨0, 24, 27, 13⟩ [⟨0, 24, 31, 15⟩, ⟨0, 24, 35, 33⟩] htab (fun z hz => absurd hz List.not_mem_nil) rfl (by decide) (hC.2.2.2.2.1 _ (uw 460 lk13.1 rfl)) (tB_use hT.2.1 _ tBc.1) hce hcv hcl ?_
      refine hand (j := 11) hC (by decide +kernel) (by decide) hW hS hl ?_
      refine wpw hC tkL_alert hF [] 200 ?_
      exact ⟨congrArg (fun z => some (xi z)) (show (1 : Int) = cdX E0 _ by rw [hE]; rfl), (pif_f (by rw [hE]; exact fun h => nomatch h)).symm, (pif_f (by rw [hE]; exact fun h => nomatch h)).symm⟩
    · refine vx_catch (name := xIa) hC.2.2.2.1 [⟨0, 24, 27, 13⟩] ⟨0, 24, 31, 15⟩ [⟨0, 24, 35, 33⟩] htab (fun z hz => by rw [List.mem_singleton.mp hz]; exact Or.inr ⟨by decide, _, (hC.2.2.2.2.1 _ (uw 460 lk13.1 rfl)), hR.1⟩) rfl (by decide) (hC.2.2.2.2.1 _ (uw 461 lk13.2.1 rfl)) (tB_use hT.2.1 _ tBc.2.1) hce hcv hcl ?_
      refine hand (j := 11) hC (by decide +kernel) (by decide) hW hS hl ?_
      refine wpw hC tkL_alert hF [] 200 ?_
      exact ⟨congrArg (fun z => some (xi z)) (show (2 : Int) = cdX E0 _ by rw [hE]; rfl), (pif_f (by rw [hE]; exact fun h => nomatch h)).symm, (pif_f (by rw [hE]; exact fun h => nomatch h)).symm⟩
    · refine vx_catch (name := xIs) hC.2.2.2.1 [⟨0, 24, 27, 13⟩, ⟨0, 24, 31, 15⟩] ⟨0, 24, 35, 33⟩ [] htab (fun z hz => by
        rcases List.mem_cons.mp hz with rfl | hz
        · exact Or.inr ⟨by decide, _, (hC.2.2.2.2.1 _ (uw 460 lk13.1 rfl)), hR.2.1⟩
        · rw [List.mem_singleton.mp hz]; exact Or.inr ⟨by decide, _, (hC.2.2.2.2.1 _ (uw 461 lk13.2.1 rfl)), hR.2.2⟩) rfl (by decide) (hC.2.2.2.2.1 _ (uw 587 lk13.2.2 rfl)) (tB_use hT.2.1 _ tBc.2.2) hce hcv hcl ?_
      refine hand (j := 11) hC (by decide +kernel) (by decide) hW hS hl ?_
      refine wpw hC tkL_alert hF [] 200 ?_
      exact ⟨congrArg (fun z => some (xi z)) (show (3 : Int) = cdX E0 _ by rw [hE]; rfl), (pif_f (by rw [hE]; exact fun h => nomatch h)).symm, (pif_f (by rw [hE]; exact fun h => nomatch h)).symm⟩
set_option maxRecDepth 100000 in
set_option maxHeartbeats 400000 in
theorem W_wants (mm : Mm) (o : Int64) (a b : Int) (ha : wr a = a) (hb : wr b = b) (hI : IA mm) : MetW iL_wants [(0, 17, 20, 13)] 2 [xr 1 0, xi a, xi b, xr 35 0] mm o (wF E0 (ck (ixC a (rd mm 5 0 7)) (ixC b 30)) (mm) mm (I (bz (wantC mm (30 + 0) a b))).toInt64 o) := by
  refine MetW.of (by decide +kernel) rfl (Nat.le_of_ble_eq_true rfl) ⟨by decide, by decide⟩ ?_
  intro p l e s m args below meth c Q V D ad hC hN hT hR hst htab hok hF
  refine wpw0 (rt := 1) hC tkL_wants [] 200 ?_
  refine Wx.wcall (x := iL_wants) (y := iX10_wants) (ks := 1) (avs := [_, _]) (rest := [_, _]) hC hN hT hst tkL_wants rfl rfl kX10_wants rfl (M_wants mm o a b ha hb hI) ⟨rfl, rfl⟩ rfl (Nat.le_of_ble_eq_true rfl) (by exact nol rfl) ?_ ?_
  · rintro r mm' o' ⟨hc9, rfl, rfl, rfl⟩
    refine wpw hC tkL_wants hF [] 200 ?_
    have h01 : wr (bz (wantC mm (30 + 0) a b)) = 0 ∨ wr (bz (wantC mm (30 + 0) a b)) = 1 := (by rw [wr_bz]; exact bz01 _)
    refine ⟨fun q => ⟨rfl, ⟨congrArg (fun z => some (xi z)) (show (0 : Int) = cdX E0 _ by rw [hc9]; rfl), (pif_t hc9).symm, (i64_0 q).trans (pif_t hc9).symm⟩⟩, fun q => ⟨rfl, ⟨congrArg (fun z => some (xi z)) (show (0 : Int) = cdX E0 _ by rw [hc9]; rfl), (pif_t hc9).symm, (i64_1 (h01.resolve_left q)).trans (pif_t hc9).symm⟩⟩⟩
  · rintro E mm' o' ⟨hE, rfl, rfl⟩ H locs ls ce q hW hS hl hce hcv hcl
    have hin : inE [xIx] (ck (ixC a (rd mm 5 0 7)) (ixC b 30)) := by repeat' first | exact inE_ix (by decide) | exact inE_rg (by decide) | exact inE_or (by decide) | exact inE_st (by decide) | refine inE_ck ?_ ?_
    have hmem := hin E hE
    simp only [List.mem_cons, List.not_mem_nil, or_false] at hmem
    subst hmem
    refine vx_catch (name := xIx) hC.2.2.2.1 [] ⟨0, 17, 20, 13⟩ [] htab (fun z hz => absurd hz List.not_mem_nil) rfl (by decide) (hC.2.2.2.2.1 _ (uw 460 lk13.1 rfl)) (tB_use hT.2.1 _ tBc.1) hce hcv hcl ?_
    refine hand (j := 4) hC (by decide +kernel) (by decide) hW hS hl ?_
    refine wpw hC tkL_wants hF [] 200 ?_
    exact ⟨congrArg (fun z => some (xi z)) (show (1 : Int) = cdX E0 _ by rw [hE]; rfl), (pif_f (by rw [hE]; exact fun h => nomatch h)).symm, (pif_f (by rw [hE]; exact fun h => nomatch h)).symm⟩
set_option maxRecDepth 100000 in
set_option maxHeartbeats 400000 in
theorem W_chances (mm : Mm) (o : Int64) (a b c9 : Int) (ha : wr a = a) (hb : wr b = b) (hc : wr c9 = c9) (hI : IA mm) : MetW iL_chances [(0, 12, 15, 13)] 3 [xr 1 0, xi a, xi b, xi c9, xr 35 0] mm o (wF E0 (ck (ixC a (rd mm 5 0 7)) (ck (ixC b 3) (ixC c9 30))) (mm) mm (I (chanC mm a b c9)).toInt64 o) := by
  refine MetW.of (by decide +kernel) rfl (Nat.le_of_ble_eq_true rfl) ⟨by decide, by decide⟩ ?_
  intro p l e s m args below meth c Q V D ad hC hN hT hR hst htab hok hF
  refine wpw0 (rt := 1) hC tkL_chances [] 200 ?_
  refine Wx.wcall (x := iL_chances) (y := iX10_chances) (ks := 1) (avs := [_, _, _]) (rest := [_, _]) hC hN hT hst tkL_chances rfl rfl kX10_chances rfl (M_chances mm o a b c9 ha hb hc hI) ⟨rfl, rfl⟩ rfl (Nat.le_of_ble_eq_true rfl) (by exact nol rfl) ?_ ?_
  · rintro r mm' o' ⟨hc9, rfl, rfl, rfl⟩
    refine wpw hC tkL_chances hF [] 200 ?_
    exact ⟨rfl, ⟨congrArg (fun z => some (xi z)) (show (0 : Int) = cdX E0 _ by rw [hc9]; rfl), (pif_t hc9).symm, (pif_t hc9).symm⟩⟩
  · rintro E mm' o' ⟨hE, rfl, rfl⟩ H locs ls ce q hW hS hl hce hcv hcl
    have hin : inE [xIx] (ck (ixC a (rd mm 5 0 7)) (ck (ixC b 3) (ixC c9 30))) := by repeat' first | exact inE_ix (by decide) | exact inE_rg (by decide) | exact inE_or (by decide) | exact inE_st (by decide) | refine inE_ck ?_ ?_
    have hmem := hin E hE
    simp only [List.mem_cons, List.not_mem_nil, or_false] at hmem
    subst hmem
    refine vx_catch (name := xIx) hC.2.2.2.1 [] ⟨0, 12, 15, 13⟩ [] htab (fun z hz => absurd hz List.not_mem_nil) rfl (by decide) (hC.2.2.2.2.1 _ (uw 460 lk13.1 rfl)) (tB_use hT.2.1 _ tBc.1) hce hcv hcl ?_
    refine hand (j := 5) hC (by decide +kernel) (by decide) hW hS hl ?_
    refine wpw hC tkL_chances hF [] 200 ?_
    exact ⟨congrArg (fun z => some (xi z)) (show (1 : Int) = cdX E0 _ by rw [hE]; rfl), (pif_f (by rw [hE]; exact fun h => nomatch h)).symm, (pif_f (by rw [hE]; exact fun h => nomatch h)).symm⟩
set_option maxRecDepth 100000 in
set_option maxHeartbeats 400000 in
theorem W_run (mm : Mm) (o : Int64) (a : Int) (ha : wr a = a) (hI : IA mm) (hC9 : IC mm 0) (w0 : 0 ≤ rd mm 26 0 8) (w1 : rd mm 26 0 8 ≤ 720) : MetW iL_run [(0, 9, 12, 15)] 1 [xr 1 0, xi a, xr 35 0] mm o (wF E1 (rgC a 1 48) (runM a.toNat mm) mm (I (runI a.toNat 0 mm)).toInt64 o) := by
  refine MetW.of (by decide +kernel) rfl (Nat.le_of_ble_eq_true rfl) ⟨by decide, by decide⟩ ?_
  intro p l e s m args below meth c Q V D ad hC hN hT hR hst htab hok hF
  refine wpw0 (rt := 1) hC tkL_run [] 200 ?_
  refine Wx.wcall (x := iL_run) (y := iX10_run) (ks := 1) (avs := [_]) (rest := [_, _]) hC hN hT hst tkL_run rfl rfl kX10_run rfl (M_run mm o a ha hI hC9 w0 w1) ⟨rfl, rfl⟩ rfl (Nat.le_of_ble_eq_true rfl) (by exact nol rfl) ?_ ?_
  · rintro r mm' o' ⟨hc9, rfl, rfl, rfl⟩
    refine wpw hC tkL_run hF [] 200 ?_
    exact ⟨rfl, ⟨congrArg (fun z => some (xi z)) (show (0 : Int) = cdX E1 _ by rw [hc9]; rfl), (pif_t hc9).symm, (pif_t hc9).symm⟩⟩
  · rintro E mm' o' ⟨hE, rfl, rfl⟩ H locs ls ce q hW hS hl hce hcv hcl
    have hin : inE [xIa] (rgC a 1 48) := by repeat' first | exact inE_ix (by decide) | exact inE_rg (by decide) | exact inE_or (by decide) | exact inE_st (by decide) | refine inE_ck ?_ ?_
    have hmem := hin E hE
    simp only [List.mem_cons, List.not_mem_nil, or_false] at hmem
    subst hmem
    refine vx_catch (name := xIa) hC.2.2.2.1 [] ⟨0, 9, 12, 15⟩ [] htab (fun z hz => absurd hz List.not_mem_nil) rfl (by decide) (hC.2.2.2.2.1 _ (uw 461 lk13.2.1 rfl)) (tB_use hT.2.1 _ tBc.2.1) hce hcv hcl ?_
    refine hand_n (j := 3) hC (by decide +kernel) (by decide) hW hS hl ?_
    refine wpw hC tkL_run hF [] 200 ?_
    exact ⟨congrArg (fun z => some (xi z)) (show (1 : Int) = cdX E1 _ by rw [hE]; rfl), (pif_f (by rw [hE]; exact fun h => nomatch h)).symm, (pif_f (by rw [hE]; exact fun h => nomatch h)).symm⟩
set_option maxRecDepth 100000 in
set_option maxHeartbeats 400000 in
theorem W_goingOn (mm : Mm) (o : Int64) (a b : Int) (ha : wr a = a) (hb : wr b = b) : MetW iL_goingOn [(0, 10, 13, 13), (0, 10, 17, 15)] 2 [xr 1 0, xi a, xi b, xr 35 0] mm o (wF E0 (ck (ixC a 3) (rgC b 0 2)) (mm) mm (I (rd mm 31 (27 * 0 + a) b)).toInt64 o) := by
  refine MetW.of (by decide +kernel) rfl (Nat.le_of_ble_eq_true rfl) ⟨by decide, by decide⟩ ?_
  intro p l e s m args below meth c Q V D ad hC hN hT hR hst htab hok hF
  refine wpw0 (rt := 1) hC tkL_goingOn [] 200 ?_
  refine Wx.wcall (x := iL_goingOn) (y := iX10_goingOn) (ks := 1) (avs := [_, _]) (rest := [_, _]) hC hN hT hst tkL_goingOn rfl rfl kX10_goingOn rfl (M_goingOn mm o a b ha hb) ⟨rfl, rfl⟩ rfl (Nat.le_of_ble_eq_true rfl) (by exact nol rfl) ?_ ?_
  · rintro r mm' o' ⟨hc9, rfl, rfl, rfl⟩
    refine wpw hC tkL_goingOn hF [] 200 ?_
    exact ⟨rfl, ⟨congrArg (fun z => some (xi z)) (show (0 : Int) = cdX E0 _ by rw [hc9]; rfl), (pif_t hc9).symm, (pif_t hc9).symm⟩⟩
  · rintro E mm' o' ⟨hE, rfl, rfl⟩ H locs ls ce q hW hS hl hce hcv hcl
    have hin : inE [xIx, xIa] (ck (ixC a 3) (rgC b 0 2)) := by repeat' first | exact inE_ix (by decide) | exact inE_rg (by decide) | exact inE_or (by decide) | exact inE_st (by decide) | refine inE_ck ?_ ?_
    have hmem := hin E hE
    simp only [List.mem_cons, List.not_mem_nil, or_false] at hmem
    rcases hmem with rfl | rfl
    · refine vx_catch (name := xIx) hC.2.2.2.1 [] ⟨0, 10, 13, 13⟩ [⟨0, 10, 17, 15⟩] htab (fun z hz => absurd hz List.not_mem_nil) rfl (by decide) (hC.2.2.2.2.1 _ (uw 460 lk13.1 rfl)) (tB_use hT.2.1 _ tBc.1) hce hcv hcl ?_
      refine hand (j := 4) hC (by decide +kernel) (by decide) hW hS hl ?_
      refine wpw hC tkL_goingOn hF [] 200 ?_
      exact ⟨congrArg (fun z => some (xi z)) (show (1 : Int) = cdX E0 _ by rw [hE]; rfl), (pif_f (by rw [hE]; exact fun h => nomatch h)).symm, (pif_f (by rw [hE]; exact fun h => nomatch h)).symm⟩
    · refine vx_catch (name := xIa) hC.2.2.2.1 [⟨0, 10, 13, 13⟩] ⟨0, 10, 17, 15⟩ [] htab (fun z hz => by rw [List.mem_singleton.mp hz]; exact Or.inr ⟨by decide, _, (hC.2.2.2.2.1 _ (uw 460 lk13.1 rfl)), hR.1⟩) rfl (by decide) (hC.2.2.2.2.1 _ (uw 461 lk13.2.1 rfl)) (tB_use hT.2.1 _ tBc.2.1) hce hcv hcl ?_
      refine hand (j := 4) hC (by decide +kernel) (by decide) hW hS hl ?_
      refine wpw hC tkL_goingOn hF [] 200 ?_
      exact ⟨congrArg (fun z => some (xi z)) (show (2 : Int) = cdX E0 _ by rw [hE]; rfl), (pif_f (by rw [hE]; exact fun h => nomatch h)).symm, (pif_f (by rw [hE]; exact fun h => nomatch h)).symm⟩
set_option maxRecDepth 100000 in
set_option maxHeartbeats 400000 in
theorem W_visits (mm : Mm) (o : Int64) (a : Int) (ha : wr a = a) (hI : IA mm) : MetW iL_visits [(0, 9, 12, 13)] 1 [xr 1 0, xi a, xr 35 0] mm o (wF E0 (ixC a (rd mm 5 0 7)) (mm) mm (I (rd mm 21 (30 + 0) a)).toInt64 o) := by
  refine MetW.of (by decide +kernel) rfl (Nat.le_of_ble_eq_true rfl) ⟨by decide, by decide⟩ ?_
  intro p l e s m args below meth c Q V D ad hC hN hT hR hst htab hok hF
  refine wpw0 (rt := 1) hC tkL_visits [] 200 ?_
  refine Wx.wcall (x := iL_visits) (y := iX10_visits) (ks := 1) (avs := [_]) (rest := [_, _]) hC hN hT hst tkL_visits rfl rfl kX10_visits rfl (M_visits mm o a ha hI) ⟨rfl, rfl⟩ rfl (Nat.le_of_ble_eq_true rfl) (by exact nol rfl) ?_ ?_
  · rintro r mm' o' ⟨hc9, rfl, rfl, rfl⟩
    refine wpw hC tkL_visits hF [] 200 ?_
    exact ⟨rfl, ⟨congrArg (fun z => some (xi z)) (show (0 : Int) = cdX E0 _ by rw [hc9]; rfl), (pif_t hc9).symm, (pif_t hc9).symm⟩⟩
  · rintro E mm' o' ⟨hE, rfl, rfl⟩ H locs ls ce q hW hS hl hce hcv hcl
    have hin : inE [xIx] (ixC a (rd mm 5 0 7)) := by repeat' first | exact inE_ix (by decide) | exact inE_rg (by decide) | exact inE_or (by decide) | exact inE_st (by decide) | refine inE_ck ?_ ?_
    have hmem := hin E hE
    simp only [List.mem_cons, List.not_mem_nil, or_false] at hmem
    subst hmem
    refine vx_catch (name := xIx) hC.2.2.2.1 [] ⟨0, 9, 12, 13⟩ [] htab (fun z hz => absurd hz List.not_mem_nil) rfl (by decide) (hC.2.2.2.2.1 _ (uw 460 lk13.1 rfl)) (tB_use hT.2.1 _ tBc.1) hce hcv hcl ?_
    refine hand_n (j := 3) hC (by decide +kernel) (by decide) hW hS hl ?_
    refine wpw hC tkL_visits hF [] 200 ?_
    exact ⟨congrArg (fun z => some (xi z)) (show (1 : Int) = cdX E0 _ by rw [hE]; rfl), (pif_f (by rw [hE]; exact fun h => nomatch h)).symm, (pif_f (by rw [hE]; exact fun h => nomatch h)).symm⟩
set_option maxRecDepth 100000 in
set_option maxHeartbeats 400000 in
theorem W_served (mm : Mm) (o : Int64) (a : Int) (ha : wr a = a) (hI : IA mm) (hB : ∀ a, 0 ≤ a → a < 10 → rd mm 24 (30 + 0) a = 0 ∨ rd mm 24 (30 + 0) a = 1) : MetW iL_served [(0, 16, 19, 13)] 1 [xr 1 0, xi a, xr 35 0] mm o (wF E0 (ixC a (rd mm 5 0 8)) (mm) mm (I (rd mm 24 (30 + 0) a)).toInt64 o) := by
  refine MetW.of (by decide +kernel) rfl (Nat.le_of_ble_eq_true rfl) ⟨by decide, by decide⟩ ?_
  intro p l e s m args below meth c Q V D ad hC hN hT hR hst htab hok hF
  refine wpw0 (rt := 1) hC tkL_served [] 200 ?_
  refine Wx.wcall (x := iL_served) (y := iX10_served) (ks := 1) (avs := [_]) (rest := [_, _]) hC hN hT hst tkL_served rfl rfl kX10_served rfl (M_served mm o a ha hI hB) ⟨rfl, rfl⟩ rfl (Nat.le_of_ble_eq_true rfl) (by exact nol rfl) ?_ ?_
  · rintro r mm' o' ⟨hc9, rfl, rfl, rfl⟩
    refine wpw hC tkL_served hF [] 200 ?_
    have h01 : wr (rd mm 24 (30 + 0) a) = 0 ∨ wr (rd mm 24 (30 + 0) a) = 1 := (by rw [wr_rd]; exact hB a (ix_of hc9).1 (Int.lt_of_lt_of_le (ix_of hc9).2 hI.2.2.2.2.2.2))
    refine ⟨fun q => ⟨rfl, ⟨congrArg (fun z => some (xi z)) (show (0 : Int) = cdX E0 _ by rw [hc9]; rfl), (pif_t hc9).symm, (i64_0 q).trans (pif_t hc9).symm⟩⟩, fun q => ⟨rfl, ⟨congrArg (fun z => some (xi z)) (show (0 : Int) = cdX E0 _ by rw [hc9]; rfl), (pif_t hc9).symm, (i64_1 (h01.resolve_left q)).trans (pif_t hc9).symm⟩⟩⟩
  · rintro E mm' o' ⟨hE, rfl, rfl⟩ H locs ls ce q hW hS hl hce hcv hcl
    have hin : inE [xIx] (ixC a (rd mm 5 0 8)) := by repeat' first | exact inE_ix (by decide) | exact inE_rg (by decide) | exact inE_or (by decide) | exact inE_st (by decide) | refine inE_ck ?_ ?_
    have hmem := hin E hE
    simp only [List.mem_cons, List.not_mem_nil, or_false] at hmem
    subst hmem
    refine vx_catch (name := xIx) hC.2.2.2.1 [] ⟨0, 16, 19, 13⟩ [] htab (fun z hz => absurd hz List.not_mem_nil) rfl (by decide) (hC.2.2.2.2.1 _ (uw 460 lk13.1 rfl)) (tB_use hT.2.1 _ tBc.1) hce hcv hcl ?_
    refine hand_n (j := 3) hC (by decide +kernel) (by decide) hW hS hl ?_
    refine wpw hC tkL_served hF [] 200 ?_
    exact ⟨congrArg (fun z => some (xi z)) (show (1 : Int) = cdX E0 _ by rw [hE]; rfl), (pif_f (by rw [hE]; exact fun h => nomatch h)).symm, (pif_f (by rw [hE]; exact fun h => nomatch h)).symm⟩
set_option maxRecDepth 100000 in
set_option maxHeartbeats 400000 in
theorem W_slots (mm : Mm) (o : Int64) (a z : Int) (ha : wr a = a) (hz : wr z = z) : MetW iL_slots [(0, 10, 13, 13)] 1 [xr 1 0, xi a, xi z, xr 35 0] mm o (wF E0 (ixC a 4) (mm) mm (I (sltC mm a z)).toInt64 o) := by
  refine MetW.of (by decide +kernel) rfl (Nat.le_of_ble_eq_true rfl) ⟨by decide, by decide⟩ ?_
  intro p l e s m args below meth c Q V D ad hC hN hT hR hst htab hok hF
  refine wpw0 (rt := 1) hC tkL_slots [] 200 ?_
  refine Wx.wcall (x := iL_slots) (y := iX10_slots) (ks := 1) (avs := [_, _]) (rest := [_, _]) hC hN hT hst tkL_slots rfl rfl kX10_slots rfl (M_slots mm o a z ha hz) ⟨rfl, rfl⟩ rfl (Nat.le_of_ble_eq_true rfl) (by exact nol rfl) ?_ ?_
  · rintro r mm' o' ⟨hc9, rfl, rfl, rfl⟩
    refine wpw hC tkL_slots hF [] 200 ?_
    exact ⟨rfl, ⟨congrArg (fun z => some (xi z)) (show (0 : Int) = cdX E0 _ by rw [hc9]; rfl), (pif_t hc9).symm, (pif_t hc9).symm⟩⟩
  · rintro E mm' o' ⟨hE, rfl, rfl⟩ H locs ls ce q hW hS hl hce hcv hcl
    have hin : inE [xIx] (ixC a 4) := by repeat' first | exact inE_ix (by decide) | exact inE_rg (by decide) | exact inE_or (by decide) | exact inE_st (by decide) | refine inE_ck ?_ ?_
    have hmem := hin E hE
    simp only [List.mem_cons, List.not_mem_nil, or_false] at hmem
    subst hmem
    refine vx_catch (name := xIx) hC.2.2.2.1 [] ⟨0, 10, 13, 13⟩ [] htab (fun z hz => absurd hz List.not_mem_nil) rfl (by decide) (hC.2.2.2.2.1 _ (uw 460 lk13.1 rfl)) (tB_use hT.2.1 _ tBc.1) hce hcv hcl ?_
    refine hand (j := 4) hC (by decide +kernel) (by decide) hW hS hl ?_
    refine wpw hC tkL_slots hF [] 200 ?_
    exact ⟨congrArg (fun z => some (xi z)) (show (1 : Int) = cdX E0 _ by rw [hE]; rfl), (pif_f (by rw [hE]; exact fun h => nomatch h)).symm, (pif_f (by rw [hE]; exact fun h => nomatch h)).symm⟩
set_option maxRecDepth 100000 in
set_option maxHeartbeats 400000 in
theorem W_lost (mm : Mm) (o : Int64) (a z : Int) (ha : wr a = a) (hz : wr z = z) : MetW iL_lost [(0, 10, 13, 13)] 1 [xr 1 0, xi a, xi z, xr 35 0] mm o (wF E0 (ixC a 3) (mm) mm (I (lstC mm a z)).toInt64 o) := by
  refine MetW.of (by decide +kernel) rfl (Nat.le_of_ble_eq_true rfl) ⟨by decide, by decide⟩ ?_
  intro p l e s m args below meth c Q V D ad hC hN hT hR hst htab hok hF
  refine wpw0 (rt := 1) hC tkL_lost [] 200 ?_
  refine Wx.wcall (x := iL_lost) (y := iX10_lost) (ks := 1) (avs := [_, _]) (rest := [_, _]) hC hN hT hst tkL_lost rfl rfl kX10_lost rfl (M_lost mm o a z ha hz) ⟨rfl, rfl⟩ rfl (Nat.le_of_ble_eq_true rfl) (by exact nol rfl) ?_ ?_
  · rintro r mm' o' ⟨hc9, rfl, rfl, rfl⟩
    refine wpw hC tkL_lost hF [] 200 ?_
    exact ⟨rfl, ⟨congrArg (fun z => some (xi z)) (show (0 : Int) = cdX E0 _ by rw [hc9]; rfl), (pif_t hc9).symm, (pif_t hc9).symm⟩⟩
  · rintro E mm' o' ⟨hE, rfl, rfl⟩ H locs ls ce q hW hS hl hce hcv hcl
    have hin : inE [xIx] (ixC a 3) := by repeat' first | exact inE_ix (by decide) | exact inE_rg (by decide) | exact inE_or (by decide) | exact inE_st (by decide) | refine inE_ck ?_ ?_
    have hmem := hin E hE
    simp only [List.mem_cons, List.not_mem_nil, or_false] at hmem
    subst hmem
    refine vx_catch (name := xIx) hC.2.2.2.1 [] ⟨0, 10, 13, 13⟩ [] htab (fun z hz => absurd hz List.not_mem_nil) rfl (by decide) (hC.2.2.2.2.1 _ (uw 460 lk13.1 rfl)) (tB_use hT.2.1 _ tBc.1) hce hcv hcl ?_
    refine hand (j := 4) hC (by decide +kernel) (by decide) hW hS hl ?_
    refine wpw hC tkL_lost hF [] 200 ?_
    exact ⟨congrArg (fun z => some (xi z)) (show (1 : Int) = cdX E0 _ by rw [hE]; rfl), (pif_f (by rw [hE]; exact fun h => nomatch h)).symm, (pif_f (by rw [hE]; exact fun h => nomatch h)).symm⟩
set_option maxRecDepth 100000 in
set_option maxHeartbeats 400000 in
theorem W_datum (mm : Mm) (o : Int64) (a b : Int) (ha : wr a = a) (hb : wr b = b) (n1 : rd mm 27 0 1 ≤ 100) : MetW iL_datum [(0, 10, 13, 13), (0, 10, 17, 15)] 2 [xr 1 0, xi a, xi b, xr 35 0] mm o (wF E0 (ck (ixC a (rd mm 27 0 1)) (rgC b 0 6)) (mm) mm (I (rd mm 28 0 (a * 7 + b))).toInt64 o) := by
  refine MetW.of (by decide +kernel) rfl (Nat.le_of_ble_eq_true rfl) ⟨by decide, by decide⟩ ?_
  intro p l e s m args below meth c Q V D ad hC hN hT hR hst htab hok hF
  refine wpw0 (rt := 1) hC tkL_datum [] 200 ?_
  refine Wx.wcall (x := iL_datum) (y := iX10_datum) (ks := 1) (avs := [_, _]) (rest := [_, _]) hC hN hT hst tkL_datum rfl rfl kX10_datum rfl (M_datum mm o a b ha hb n1) ⟨rfl, rfl⟩ rfl (Nat.le_of_ble_eq_true rfl) (by exact nol rfl) ?_ ?_
  · rintro r mm' o' ⟨hc9, rfl, rfl, rfl⟩
    refine wpw hC tkL_datum hF [] 200 ?_
    exact ⟨rfl, ⟨congrArg (fun z => some (xi z)) (show (0 : Int) = cdX E0 _ by rw [hc9]; rfl), (pif_t hc9).symm, (pif_t hc9).symm⟩⟩
  · rintro E mm' o' ⟨hE, rfl, rfl⟩ H locs ls ce q hW hS hl hce hcv hcl
    have hin : inE [xIx, xIa] (ck (ixC a (rd mm 27 0 1)) (rgC b 0 6)) := by repeat' first | exact inE_ix (by decide) | exact inE_rg (by decide) | exact inE_or (by decide) | exact inE_st (by decide) | refine inE_ck ?_ ?_
    have hmem := hin E hE
    simp only [List.mem_cons, List.not_mem_nil, or_false] at hmem
    rcases hmem with rfl | rfl
    · refine vx_catch (name := xIx) hC.2.2.2.1 [] ⟨0, 10, 13, 13⟩ [⟨0, 10, 17, 15⟩] htab (fun z hz => absurd hz List.not_mem_nil) rfl (by decide) (hC.2.2.2.2.1 _ (uw 460 lk13.1 rfl)) (tB_use hT.2.1 _ tBc.1) hce hcv hcl ?_
      refine hand (j := 4) hC (by decide +kernel) (by decide) hW hS hl ?_
      refine wpw hC tkL_datum hF [] 200 ?_
      exact ⟨congrArg (fun z => some (xi z)) (show (1 : Int) = cdX E0 _ by rw [hE]; rfl), (pif_f (by rw [hE]; exact fun h => nomatch h)).symm, (pif_f (by rw [hE]; exact fun h => nomatch h)).symm⟩
    · refine vx_catch (name := xIa) hC.2.2.2.1 [⟨0, 10, 13, 13⟩] ⟨0, 10, 17, 15⟩ [] htab (fun z hz => by rw [List.mem_singleton.mp hz]; exact Or.inr ⟨by decide, _, (hC.2.2.2.2.1 _ (uw 460 lk13.1 rfl)), hR.1⟩) rfl (by decide) (hC.2.2.2.2.1 _ (uw 461 lk13.2.1 rfl)) (tB_use hT.2.1 _ tBc.2.1) hce hcv hcl ?_
      refine hand (j := 4) hC (by decide +kernel) (by decide) hW hS hl ?_
      refine wpw hC tkL_datum hF [] 200 ?_
      exact ⟨congrArg (fun z => some (xi z)) (show (2 : Int) = cdX E0 _ by rw [hE]; rfl), (pif_f (by rw [hE]; exact fun h => nomatch h)).symm, (pif_f (by rw [hE]; exact fun h => nomatch h)).symm⟩
set_option maxRecDepth 100000 in
set_option maxHeartbeats 400000 in
theorem W_reads (mm : Mm) (o : Int64) (a b c9 : Int) (ha : wr a = a) (hb : wr b = b) (hc : wr c9 = c9) (hI : IA mm) (n1 : rd mm 27 0 1 ≤ 100) (hP : ∀ b, 0 ≤ b → b < rd mm 27 0 1 → ¬ rd mm 28 0 (b * 7) = 2 → 0 ≤ rd mm 28 0 (b * 7 + 1) ∧ rd mm 28 0 (b * 7 + 1) < 24) : MetW iL_reads [(0, 19, 22, 13)] 3 [xr 1 0, xi a, xi b, xi c9, xr 35 0] mm o (wF E0 (ck (ixC a 4) (ck (ixC b (rd mm 27 0 1)) (ixC c9 30))) (mm) mm (I (bz (crdP mm a b c9))).toInt64 o) := by
  refine MetW.of (by decide +kernel) rfl (Nat.le_of_ble_eq_true rfl) ⟨by decide, by decide⟩ ?_
  intro p l e s m args below meth c Q V D ad hC hN hT hR hst htab hok hF
  refine wpw0 (rt := 1) hC tkL_reads [] 200 ?_
  refine Wx.wcall (x := iL_reads) (y := iX10_reads) (ks := 1) (avs := [_, _, _]) (rest := [_, _]) hC hN hT hst tkL_reads rfl rfl kX10_reads rfl (M_reads mm o a b c9 ha hb hc hI n1 hP) ⟨rfl, rfl⟩ rfl (Nat.le_of_ble_eq_true rfl) (by exact nol rfl) ?_ ?_
  · rintro r mm' o' ⟨hc9, rfl, rfl, rfl⟩
    refine wpw hC tkL_reads hF [] 200 ?_
    have h01 : wr (bz (crdP mm a b c9)) = 0 ∨ wr (bz (crdP mm a b c9)) = 1 := (by rw [wr_bz]; exact bz01 _)
    refine ⟨fun q => ⟨rfl, ⟨congrArg (fun z => some (xi z)) (show (0 : Int) = cdX E0 _ by rw [hc9]; rfl), (pif_t hc9).symm, (i64_0 q).trans (pif_t hc9).symm⟩⟩, fun q => ⟨rfl, ⟨congrArg (fun z => some (xi z)) (show (0 : Int) = cdX E0 _ by rw [hc9]; rfl), (pif_t hc9).symm, (i64_1 (h01.resolve_left q)).trans (pif_t hc9).symm⟩⟩⟩
  · rintro E mm' o' ⟨hE, rfl, rfl⟩ H locs ls ce q hW hS hl hce hcv hcl
    have hin : inE [xIx] (ck (ixC a 4) (ck (ixC b (rd mm 27 0 1)) (ixC c9 30))) := by repeat' first | exact inE_ix (by decide) | exact inE_rg (by decide) | exact inE_or (by decide) | exact inE_st (by decide) | refine inE_ck ?_ ?_
    have hmem := hin E hE
    simp only [List.mem_cons, List.not_mem_nil, or_false] at hmem
    subst hmem
    refine vx_catch (name := xIx) hC.2.2.2.1 [] ⟨0, 19, 22, 13⟩ [] htab (fun z hz => absurd hz List.not_mem_nil) rfl (by decide) (hC.2.2.2.2.1 _ (uw 460 lk13.1 rfl)) (tB_use hT.2.1 _ tBc.1) hce hcv hcl ?_
    refine hand (j := 5) hC (by decide +kernel) (by decide) hW hS hl ?_
    refine wpw hC tkL_reads hF [] 200 ?_
    exact ⟨congrArg (fun z => some (xi z)) (show (1 : Int) = cdX E0 _ by rw [hE]; rfl), (pif_f (by rw [hE]; exact fun h => nomatch h)).symm, (pif_f (by rw [hE]; exact fun h => nomatch h)).symm⟩
set_option maxRecDepth 100000 in
set_option maxHeartbeats 400000 in
theorem W_replay (mm : Mm) (o : Int64) (a : Int) (ha : wr a = a) (hI : IA mm) (hC9 : IC mm 1) : MetW iL_replay [(0, 9, 12, 13), (0, 9, 15, 33)] 2 [xr 1 0, xi a, xr 35 0] mm o (wF E2 (ck (ixC a 30) (stC (bz (a * 24 < rd mm 26 0 8)))) (repM mm a) mm (I (rd (repM mm a) 26 1 9)).toInt64 o) := by
  refine MetW.of (by decide +kernel) rfl (Nat.le_of_ble_eq_true rfl) ⟨by decide, by decide⟩ ?_
  intro p l e s m args below meth c Q V D ad hC hN hT hR hst htab hok hF
  refine wpw0 (rt := 1) hC tkL_replay [] 200 ?_
  refine Wx.wcall (x := iL_replay) (y := iX10_replay) (ks := 1) (avs := [_]) (rest := [_, _]) hC hN hT hst tkL_replay rfl rfl kX10_replay rfl (M_replay mm o a ha hI hC9) ⟨rfl, rfl⟩ rfl (Nat.le_of_ble_eq_true rfl) (by exact nol rfl) ?_ ?_
  · rintro r mm' o' ⟨hc9, rfl, rfl, rfl⟩
    refine wpw hC tkL_replay hF [] 200 ?_
    exact ⟨rfl, ⟨congrArg (fun z => some (xi z)) (show (0 : Int) = cdX E2 _ by rw [hc9]; rfl), (pif_t hc9).symm, (pif_t hc9).symm⟩⟩
  · rintro E mm' o' ⟨hE, rfl, rfl⟩ H locs ls ce q hW hS hl hce hcv hcl
    have hin : inE [xIx, xIs] (ck (ixC a 30) (stC (bz (a * 24 < rd mm 26 0 8)))) := by repeat' first | exact inE_ix (by decide) | exact inE_rg (by decide) | exact inE_or (by decide) | exact inE_st (by decide) | refine inE_ck ?_ ?_
    have hmem := hin E hE
    simp only [List.mem_cons, List.not_mem_nil, or_false] at hmem
    rcases hmem with rfl | rfl
    · refine vx_catch (name := xIx) hC.2.2.2.1 [] ⟨0, 9, 12, 13⟩ [⟨0, 9, 15, 33⟩] htab (fun z hz => absurd hz List.not_mem_nil) rfl (by decide) (hC.2.2.2.2.1 _ (uw 460 lk13.1 rfl)) (tB_use hT.2.1 _ tBc.1) hce hcv hcl ?_
      refine hand_n (j := 3) hC (by decide +kernel) (by decide) hW hS hl ?_
      refine wpw hC tkL_replay hF [] 200 ?_
      exact ⟨congrArg (fun z => some (xi z)) (show (1 : Int) = cdX E2 _ by rw [hE]; rfl), (pif_f (by rw [hE]; exact fun h => nomatch h)).symm, (pif_f (by rw [hE]; exact fun h => nomatch h)).symm⟩
    · refine vx_catch (name := xIs) hC.2.2.2.1 [⟨0, 9, 12, 13⟩] ⟨0, 9, 15, 33⟩ [] htab (fun z hz => by rw [List.mem_singleton.mp hz]; exact Or.inr ⟨by decide, _, (hC.2.2.2.2.1 _ (uw 460 lk13.1 rfl)), hR.2.1⟩) rfl (by decide) (hC.2.2.2.2.1 _ (uw 587 lk13.2.2 rfl)) (tB_use hT.2.1 _ tBc.2.2) hce hcv hcl ?_
      refine hand_n (j := 3) hC (by decide +kernel) (by decide) hW hS hl ?_
      refine wpw hC tkL_replay hF [] 200 ?_
      exact ⟨congrArg (fun z => some (xi z)) (show (2 : Int) = cdX E2 _ by rw [hE]; rfl), (pif_f (by rw [hE]; exact fun h => nomatch h)).symm, (pif_f (by rw [hE]; exact fun h => nomatch h)).symm⟩
set_option maxRecDepth 100000 in
set_option maxHeartbeats 400000 in
theorem W_bestOrder (mm : Mm) (o : Int64) (a b : Int) (ha : wr a = a) (hb : wr b = b) (hI : IA mm) : MetW iL_bestOrder [(0, 10, 13, 13)] 2 [xr 1 0, xi a, xi b, xr 35 0] mm o (wF E0 (ck (ixC a 3) (ixC b 30)) (bstM mm a b) mm (I (bstR mm a b)).toInt64 o) := by
  refine MetW.of (by decide +kernel) rfl (Nat.le_of_ble_eq_true rfl) ⟨by decide, by decide⟩ ?_
  intro p l e s m args below meth c Q V D ad hC hN hT hR hst htab hok hF
  refine wpw0 (rt := 1) hC tkL_bestOrder [] 200 ?_
  refine Wx.wcall (x := iL_bestOrder) (y := iX10_bestOrder) (ks := 1) (avs := [_, _]) (rest := [_, _]) hC hN hT hst tkL_bestOrder rfl rfl kX10_bestOrder rfl (M_bestOrder mm o a b ha hb hI) ⟨rfl, rfl⟩ rfl (Nat.le_of_ble_eq_true rfl) (by exact nol rfl) ?_ ?_
  · rintro r mm' o' ⟨hc9, rfl, rfl, rfl⟩
    refine wpw hC tkL_bestOrder hF [] 200 ?_
    exact ⟨rfl, ⟨congrArg (fun z => some (xi z)) (show (0 : Int) = cdX E0 _ by rw [hc9]; rfl), (pif_t hc9).symm, (pif_t hc9).symm⟩⟩
  · rintro E mm' o' ⟨hE, rfl, rfl⟩ H locs ls ce q hW hS hl hce hcv hcl
    have hin : inE [xIx] (ck (ixC a 3) (ixC b 30)) := by repeat' first | exact inE_ix (by decide) | exact inE_rg (by decide) | exact inE_or (by decide) | exact inE_st (by decide) | refine inE_ck ?_ ?_
    have hmem := hin E hE
    simp only [List.mem_cons, List.not_mem_nil, or_false] at hmem
    subst hmem
    refine vx_catch (name := xIx) hC.2.2.2.1 [] ⟨0, 10, 13, 13⟩ [] htab (fun z hz => absurd hz List.not_mem_nil) rfl (by decide) (hC.2.2.2.2.1 _ (uw 460 lk13.1 rfl)) (tB_use hT.2.1 _ tBc.1) hce hcv hcl ?_
    refine hand (j := 4) hC (by decide +kernel) (by decide) hW hS hl ?_
    refine wpw hC tkL_bestOrder hF [] 200 ?_
    exact ⟨congrArg (fun z => some (xi z)) (show (1 : Int) = cdX E0 _ by rw [hE]; rfl), (pif_f (by rw [hE]; exact fun h => nomatch h)).symm, (pif_f (by rw [hE]; exact fun h => nomatch h)).symm⟩
