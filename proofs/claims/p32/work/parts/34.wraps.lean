/-! ===== the law's wrappers, one by one (made by wip/p32/wrapgen.py) ===== -/
def cdN (c : Option String) (v : Int) : Int := match c with
  | none => v
  | some E => if E = xIx then -2 else if E = xIa then -3 else -4
def wR (c : Option String) (v : Int) (f mm : Mm) : FT := fun r m' _ => r = some (xi (cdN c v)) ∧ m' = pif (c = none) f mm
def inE (Es : List String) (c : Option String) : Prop := ∀ E, c = some E → E ∈ Es
theorem inE_ix {Es : List String} {z n : Int} (h : xIx ∈ Es) : inE Es (ixC z n) := fun E hE => by
  unfold ixC at hE
  by_cases q : 0 ≤ z ∧ z < n
  · rw [if_pos q] at hE; cases hE
  · rw [if_neg q] at hE; cases hE; exact h
theorem inE_rg {Es : List String} {z a b : Int} (h : xIa ∈ Es) : inE Es (rgC z a b) := fun E hE => by
  unfold rgC at hE
  by_cases q : a ≤ z ∧ z ≤ b
  · rw [if_pos q] at hE; cases hE
  · rw [if_neg q] at hE; cases hE; exact h
theorem inE_or {Es : List String} {a b : Int} (h : xIa ∈ Es) : inE Es (orC a b) := fun E hE => by
  unfold orC at hE
  by_cases q : a ≤ b
  · rw [if_pos q] at hE; cases hE
  · rw [if_neg q] at hE; cases hE; exact h
theorem inE_st {Es : List String} {z : Int} (h : xIs ∈ Es) : inE Es (stC z) := fun E hE => by
  unfold stC at hE
  by_cases q : z = 0
  · rw [if_pos q] at hE; cases hE; exact h
  · rw [if_neg q] at hE; cases hE
theorem inE_ck {Es : List String} {a b : Option String} (h : inE Es a) (h2 : inE Es b) : inE Es (ck a b) := fun E hE => by
  cases a with
  | none => exact h2 E hE
  | some E' => cases hE; exact h _ rfl
theorem lk13 : lw_tbl[655]? = some (Cond.classLink RL 21 xIx) ∧ lw_tbl[656]? = some (Cond.classLink RL 23 xIa) ∧ lw_tbl[657]? = some (Cond.classLink RL 25 xIs) := by decide +kernel
theorem tBc : Cond.castable xIx xIx ∈ tB ∧ Cond.castable xIa xIa ∈ tB ∧ Cond.castable xIs xIs ∈ tB := by decide +kernel
theorem tg_w (y : Int) : wr (lowC (jshr y 3) 120 - 60) = lowC (jshr y 3) 120 - 60 ∧ wr (1 + lowC (jshr y 5) 6) = 1 + lowC (jshr y 5) 6 ∧ wr (jdiv (lowC (jshr y 7) 6) 5) = jdiv (lowC (jshr y 7) 6) 5 ∧ wr (20 + lowC (jshr y 8) 81) = 20 + lowC (jshr y 8) 81 ∧ wr (5 + lowC (jshr y 9) 46) = 5 + lowC (jshr y 9) 46 ∧ wr (1 + lowC (jshr y 4) 5) = 1 + lowC (jshr y 4) 5 := by
  have h1 := low_r (jshr y 3) (n := 120) (by decide) (by decide)
  have h2 := low_r (jshr y 5) (n := 6) (by decide) (by decide)
  have h3 := low_r (jshr y 7) (n := 6) (by decide) (by decide)
  have h4 := low_r (jshr y 8) (n := 81) (by decide) (by decide)
  have h5 := low_r (jshr y 9) (n := 46) (by decide) (by decide)
  have h6 := low_r (jshr y 4) (n := 5) (by decide) (by decide)
  refine ⟨wr_of (by omega) (by omega), wr_of (by omega) (by omega), ?_, wr_of (by omega) (by omega), wr_of (by omega) (by omega), wr_of (by omega) (by omega)⟩
  rw [jdiv_of h3.1 (by omega) (by decide) (by decide)]
  exact wr_of (by omega) (by omega)
theorem al_w (y : Int) : wr (lowC (jshr y 3) 60 - 30) = lowC (jshr y 3) 60 - 30 ∧ wr (1 + lowC (jshr y 5) 6) = 1 + lowC (jshr y 5) 6 := by
  have h1 := low_r (jshr y 3) (n := 60) (by decide) (by decide)
  have h2 := low_r (jshr y 5) (n := 6) (by decide) (by decide)
  exact ⟨wr_of (by omega) (by omega), wr_of (by omega) (by omega)⟩
theorem kL_rows : mOKw iL_rows [(0, 10, 11, 21), (0, 10, 16, 23), (0, 10, 21, 25)] 5 := ⟨uw3 (List.mem_of_getElem? (i := 210) rfl) rfl, uw1 (List.mem_of_getElem? (i := 0) rfl) rfl, uw3 (List.mem_of_getElem? (i := 209) rfl) rfl, by decide +kernel⟩
set_option maxRecDepth 100000 in
set_option maxHeartbeats 1600000 in
theorem W_rows (mm : Mm) (o : Int64) (a b c9 d9 : Int) (ha : wr a = a) (hb : wr b = b) (hc : wr c9 = c9) (hd : wr d9 = d9) (hI : IA mm) : MetW iL_rows [(0, 10, 11, 21), (0, 10, 16, 23), (0, 10, 21, 25)] 6 [xr 1 0, xi a, xi b, xi c9, xi d9] mm o (wR (ck (ixC a (rd mm 5 0 7)) (ck (ixC b 30) (ck (rgC c9 1 30) (ck (rgC d9 0 5) (ck (rgC (2 * d9) 0 (c9 - 1)) (stC (bz (rd mm 18 a 12 = 0)))))))) (0) (serC mm a b c9 d9) mm) := by
  refine MetW.of (by decide +kernel) rfl (Nat.le_of_ble_eq_true rfl) ⟨by decide, by decide⟩ ?_
  intro p l e s m args below meth c Q V D ad hC hN hT hR hst htab hok hF
  refine wpw0 (rt := 1) hC tkL_rows [] 200 ?_
  refine Wx.wcall (x := iL_rows) (y := iX10_series) (ks := 1) (avs := [_, _, _, _]) (rest := []) hC hN hT hst tkL_rows rfl rfl kX10_series rfl (M_series mm o a b c9 d9 ha hb hc hd hI) ⟨rfl, rfl⟩ rfl (Nat.le_of_ble_eq_true rfl) (by exact nol rfl) ?_ ?_
  · rintro r mm' o' ⟨hc9, rfl, rfl, rfl⟩
    refine wpw hC tkL_rows hF [] 200 ?_
    exact ⟨congrArg (fun z => some (xi z)) (show (_ : Int) = cdN _ _ by rw [hc9]; rfl), (pif_t hc9).symm⟩
  · rintro E mm' o' ⟨hE, rfl, rfl⟩ H locs ls ce q hW hS hl hce hcv hcl
    have hin : inE [xIx, xIa, xIs] (ck (ixC a (rd mm 5 0 7)) (ck (ixC b 30) (ck (rgC c9 1 30) (ck (rgC d9 0 5) (ck (rgC (2 * d9) 0 (c9 - 1)) (stC (bz (rd mm 18 a 12 = 0)))))))) := by repeat' first | exact inE_ix (by decide) | exact inE_rg (by decide) | exact inE_or (by decide) | exact inE_st (by decide) | refine inE_ck ?_ ?_
    have hmem := hin E hE
    simp only [List.mem_cons, List.not_mem_nil, or_false] at hmem
    rcases hmem with rfl | rfl | rfl
    · refine vx_catch (name := xIx) hC.2.2.2.1 [] ⟨0, 10, 11, 21⟩ [⟨0, 10, 16, 23⟩, ⟨0, 10, 21, 25⟩] htab (fun z hz => absurd hz List.not_mem_nil) rfl (by decide) (hC.2.2.2.2.1 _ (uw 655 lk13.1 rfl)) (tB_use hT.2.1 _ tBc.1) hce hcv hcl ?_
      refine hand (j := 5) hC (by decide +kernel) (by decide) hW hS hl ?_
      refine wpw hC tkL_rows hF [] 200 ?_
      exact ⟨congrArg (fun z => some (xi z)) (show (-2 : Int) = cdN _ _ by rw [hE]; rfl), (pif_f (by rw [hE]; exact fun h => nomatch h)).symm⟩
    · refine vx_catch (name := xIa) hC.2.2.2.1 [⟨0, 10, 11, 21⟩] ⟨0, 10, 16, 23⟩ [⟨0, 10, 21, 25⟩] htab (fun z hz => by rw [List.mem_singleton.mp hz]; exact Or.inr ⟨by decide, _, (hC.2.2.2.2.1 _ (uw 655 lk13.1 rfl)), hR.1⟩) rfl (by decide) (hC.2.2.2.2.1 _ (uw 656 lk13.2.1 rfl)) (tB_use hT.2.1 _ tBc.2.1) hce hcv hcl ?_
      refine hand (j := 5) hC (by decide +kernel) (by decide) hW hS hl ?_
      refine wpw hC tkL_rows hF [] 200 ?_
      exact ⟨congrArg (fun z => some (xi z)) (show (-3 : Int) = cdN _ _ by rw [hE]; rfl), (pif_f (by rw [hE]; exact fun h => nomatch h)).symm⟩
    · refine vx_catch (name := xIs) hC.2.2.2.1 [⟨0, 10, 11, 21⟩, ⟨0, 10, 16, 23⟩] ⟨0, 10, 21, 25⟩ [] htab (fun z hz => by
        rcases List.mem_cons.mp hz with rfl | hz
        · exact Or.inr ⟨by decide, _, (hC.2.2.2.2.1 _ (uw 655 lk13.1 rfl)), hR.2.1⟩
        · rw [List.mem_singleton.mp hz]; exact Or.inr ⟨by decide, _, (hC.2.2.2.2.1 _ (uw 656 lk13.2.1 rfl)), hR.2.2⟩) rfl (by decide) (hC.2.2.2.2.1 _ (uw 657 lk13.2.2 rfl)) (tB_use hT.2.1 _ tBc.2.2) hce hcv hcl ?_
      refine hand (j := 5) hC (by decide +kernel) (by decide) hW hS hl ?_
      refine wpw hC tkL_rows hF [] 200 ?_
      exact ⟨congrArg (fun z => some (xi z)) (show (-4 : Int) = cdN _ _ by rw [hE]; rfl), (pif_f (by rw [hE]; exact fun h => nomatch h)).symm⟩
theorem kL_mounts : mOKw iL_mounts [(0, 7, 8, 21), (0, 7, 13, 25)] 4 := ⟨uw3 (List.mem_of_getElem? (i := 231) rfl) rfl, uw1 (List.mem_of_getElem? (i := 0) rfl) rfl, uw3 (List.mem_of_getElem? (i := 230) rfl) rfl, by decide +kernel⟩
set_option maxRecDepth 100000 in
set_option maxHeartbeats 1600000 in
theorem W_mounts (mm : Mm) (o : Int64) (a b c9 : Int) (ha : wr a = a) (hb : wr b = b) (hc : wr c9 = c9) : MetW iL_mounts [(0, 7, 8, 21), (0, 7, 13, 25)] 4 [xr 1 0, xi a, xi b, xi c9] mm o (wR (ck (ixC a 3) (ck (ixC b 30) (ck (ixC c9 3) (stC (bz (rd mm 26 0 8 ≤ b * 24)))))) (rd mm 14 a b) (ufC mm a b c9) mm) := by
  refine MetW.of (by decide +kernel) rfl (Nat.le_of_ble_eq_true rfl) ⟨by decide, by decide⟩ ?_
  intro p l e s m args below meth c Q V D ad hC hN hT hR hst htab hok hF
  refine wpw0 (rt := 1) hC tkL_mounts [] 200 ?_
  refine Wx.wcall (x := iL_mounts) (y := iX10_mount) (ks := 1) (avs := [_, _, _]) (rest := []) hC hN hT hst tkL_mounts rfl rfl kX10_mount rfl (M_mount mm o a b c9 ha hb hc) ⟨rfl, rfl⟩ rfl (Nat.le_of_ble_eq_true rfl) (by exact nol rfl) ?_ ?_
  · rintro r mm' o' ⟨hc9, rfl, rfl, rfl⟩
    refine wpw hC tkL_mounts hF [] 200 ?_
    exact ⟨congrArg (fun z => some (xi z)) (show (_ : Int) = cdN _ _ by rw [hc9]; rfl), (pif_t hc9).symm⟩
  · rintro E mm' o' ⟨hE, rfl, rfl⟩ H locs ls ce q hW hS hl hce hcv hcl
    have hin : inE [xIx, xIs] (ck (ixC a 3) (ck (ixC b 30) (ck (ixC c9 3) (stC (bz (rd mm 26 0 8 ≤ b * 24)))))) := by repeat' first | exact inE_ix (by decide) | exact inE_rg (by decide) | exact inE_or (by decide) | exact inE_st (by decide) | refine inE_ck ?_ ?_
    have hmem := hin E hE
    simp only [List.mem_cons, List.not_mem_nil, or_false] at hmem
    rcases hmem with rfl | rfl
    · refine vx_catch (name := xIx) hC.2.2.2.1 [] ⟨0, 7, 8, 21⟩ [⟨0, 7, 13, 25⟩] htab (fun z hz => absurd hz List.not_mem_nil) rfl (by decide) (hC.2.2.2.2.1 _ (uw 655 lk13.1 rfl)) (tB_use hT.2.1 _ tBc.1) hce hcv hcl ?_
      refine hand (j := 4) hC (by decide +kernel) (by decide) hW hS hl ?_
      refine wpw hC tkL_mounts hF [] 200 ?_
      exact ⟨congrArg (fun z => some (xi z)) (show (-2 : Int) = cdN _ _ by rw [hE]; rfl), (pif_f (by rw [hE]; exact fun h => nomatch h)).symm⟩
    · refine vx_catch (name := xIs) hC.2.2.2.1 [⟨0, 7, 8, 21⟩] ⟨0, 7, 13, 25⟩ [] htab (fun z hz => by rw [List.mem_singleton.mp hz]; exact Or.inr ⟨by decide, _, (hC.2.2.2.2.1 _ (uw 655 lk13.1 rfl)), hR.2.1⟩) rfl (by decide) (hC.2.2.2.2.1 _ (uw 657 lk13.2.2 rfl)) (tB_use hT.2.1 _ tBc.2.2) hce hcv hcl ?_
      refine hand (j := 4) hC (by decide +kernel) (by decide) hW hS hl ?_
      refine wpw hC tkL_mounts hF [] 200 ?_
      exact ⟨congrArg (fun z => some (xi z)) (show (-4 : Int) = cdN _ _ by rw [hE]; rfl), (pif_f (by rw [hE]; exact fun h => nomatch h)).symm⟩
theorem kL_replays : mOKw iL_replays [(0, 5, 6, 21), (0, 5, 10, 25)] 2 := ⟨uw4 (List.mem_of_getElem? (i := 2) rfl) rfl, uw1 (List.mem_of_getElem? (i := 0) rfl) rfl, uw4 (List.mem_of_getElem? (i := 1) rfl) rfl, by decide +kernel⟩
set_option maxRecDepth 100000 in
set_option maxHeartbeats 1600000 in
theorem W_replays (mm : Mm) (o : Int64) (a : Int) (ha : wr a = a) (hI : IA mm) (hC9 : IC mm 1) : MetW iL_replays [(0, 5, 6, 21), (0, 5, 10, 25)] 2 [xr 1 0, xi a] mm o (wR (ck (ixC a 30) (stC (bz (a * 24 < rd mm 26 0 8)))) (rd (repM mm a) 26 1 9) (repM mm a) mm) := by
  refine MetW.of (by decide +kernel) rfl (Nat.le_of_ble_eq_true rfl) ⟨by decide, by decide⟩ ?_
  intro p l e s m args below meth c Q V D ad hC hN hT hR hst htab hok hF
  refine wpw0 (rt := 1) hC tkL_replays [] 200 ?_
  refine Wx.wcall (x := iL_replays) (y := iX10_replay) (ks := 1) (avs := [_]) (rest := []) hC hN hT hst tkL_replays rfl rfl kX10_replay rfl (M_replay mm o a ha hI hC9) ⟨rfl, rfl⟩ rfl (Nat.le_of_ble_eq_true rfl) (by exact nol rfl) ?_ ?_
  · rintro r mm' o' ⟨hc9, rfl, rfl, rfl⟩
    refine wpw hC tkL_replays hF [] 200 ?_
    exact ⟨congrArg (fun z => some (xi z)) (show (_ : Int) = cdN _ _ by rw [hc9]; rfl), (pif_t hc9).symm⟩
  · rintro E mm' o' ⟨hE, rfl, rfl⟩ H locs ls ce q hW hS hl hce hcv hcl
    have hin : inE [xIx, xIs] (ck (ixC a 30) (stC (bz (a * 24 < rd mm 26 0 8)))) := by repeat' first | exact inE_ix (by decide) | exact inE_rg (by decide) | exact inE_or (by decide) | exact inE_st (by decide) | refine inE_ck ?_ ?_
    have hmem := hin E hE
    simp only [List.mem_cons, List.not_mem_nil, or_false] at hmem
    rcases hmem with rfl | rfl
    · refine vx_catch (name := xIx) hC.2.2.2.1 [] ⟨0, 5, 6, 21⟩ [⟨0, 5, 10, 25⟩] htab (fun z hz => absurd hz List.not_mem_nil) rfl (by decide) (hC.2.2.2.2.1 _ (uw 655 lk13.1 rfl)) (tB_use hT.2.1 _ tBc.1) hce hcv hcl ?_
      refine hand_n (j := 2) hC (by decide +kernel) (by decide) hW hS hl ?_
      refine wpw hC tkL_replays hF [] 200 ?_
      exact ⟨congrArg (fun z => some (xi z)) (show (-2 : Int) = cdN _ _ by rw [hE]; rfl), (pif_f (by rw [hE]; exact fun h => nomatch h)).symm⟩
    · refine vx_catch (name := xIs) hC.2.2.2.1 [⟨0, 5, 6, 21⟩] ⟨0, 5, 10, 25⟩ [] htab (fun z hz => by rw [List.mem_singleton.mp hz]; exact Or.inr ⟨by decide, _, (hC.2.2.2.2.1 _ (uw 655 lk13.1 rfl)), hR.2.1⟩) rfl (by decide) (hC.2.2.2.2.1 _ (uw 657 lk13.2.2 rfl)) (tB_use hT.2.1 _ tBc.2.2) hce hcv hcl ?_
      refine hand_n (j := 2) hC (by decide +kernel) (by decide) hW hS hl ?_
      refine wpw hC tkL_replays hF [] 200 ?_
      exact ⟨congrArg (fun z => some (xi z)) (show (-4 : Int) = cdN _ _ by rw [hE]; rfl), (pif_f (by rw [hE]; exact fun h => nomatch h)).symm⟩
theorem kL_proposals : mOKw iL_proposals [(0, 9, 10, 21), (0, 9, 15, 23), (0, 9, 20, 25)] 5 := ⟨uw4 (List.mem_of_getElem? (i := 14) rfl) rfl, uw1 (List.mem_of_getElem? (i := 0) rfl) rfl, uw4 (List.mem_of_getElem? (i := 13) rfl) rfl, by decide +kernel⟩
set_option maxRecDepth 100000 in
set_option maxHeartbeats 1600000 in
theorem W_proposals (mm : Mm) (o : Int64) (a b c9 d9 : Int) (ha : wr a = a) (hb : wr b = b) (hc : wr c9 = c9) (hd : wr d9 = d9) (hI : IA mm) : MetW iL_proposals [(0, 9, 10, 21), (0, 9, 15, 23), (0, 9, 20, 25)] 5 [xr 1 0, xi a, xi b, xi c9, xi d9] mm o (wR (ck (ixC a 4) (ck (rgC b 0 9) (ck (rgC c9 0 100) (ck (rgC d9 0 30) (stC (bz (rd mm 5 0 6 < 8))))))) (rd mm 5 0 6) (proC mm a b c9 d9) mm) := by
  refine MetW.of (by decide +kernel) rfl (Nat.le_of_ble_eq_true rfl) ⟨by decide, by decide⟩ ?_
  intro p l e s m args below meth c Q V D ad hC hN hT hR hst htab hok hF
  refine wpw0 (rt := 1) hC tkL_proposals [] 200 ?_
  refine Wx.wcall (x := iL_proposals) (y := iX10_proposal) (ks := 1) (avs := [_, _, _, _]) (rest := []) hC hN hT hst tkL_proposals rfl rfl kX10_proposal rfl (M_proposal mm o a b c9 d9 ha hb hc hd hI) ⟨rfl, rfl⟩ rfl (Nat.le_of_ble_eq_true rfl) (by exact nol rfl) ?_ ?_
  · rintro r mm' o' ⟨hc9, rfl, rfl, rfl⟩
    refine wpw hC tkL_proposals hF [] 200 ?_
    exact ⟨congrArg (fun z => some (xi z)) (show (_ : Int) = cdN _ _ by rw [hc9]; rfl), (pif_t hc9).symm⟩
  · rintro E mm' o' ⟨hE, rfl, rfl⟩ H locs ls ce q hW hS hl hce hcv hcl
    have hin : inE [xIx, xIa, xIs] (ck (ixC a 4) (ck (rgC b 0 9) (ck (rgC c9 0 100) (ck (rgC d9 0 30) (stC (bz (rd mm 5 0 6 < 8))))))) := by repeat' first | exact inE_ix (by decide) | exact inE_rg (by decide) | exact inE_or (by decide) | exact inE_st (by decide) | refine inE_ck ?_ ?_
    have hmem := hin E hE
    simp only [List.mem_cons, List.not_mem_nil, or_false] at hmem
    rcases hmem with rfl | rfl | rfl
    · refine vx_catch (name := xIx) hC.2.2.2.1 [] ⟨0, 9, 10, 21⟩ [⟨0, 9, 15, 23⟩, ⟨0, 9, 20, 25⟩] htab (fun z hz => absurd hz List.not_mem_nil) rfl (by decide) (hC.2.2.2.2.1 _ (uw 655 lk13.1 rfl)) (tB_use hT.2.1 _ tBc.1) hce hcv hcl ?_
      refine hand (j := 5) hC (by decide +kernel) (by decide) hW hS hl ?_
      refine wpw hC tkL_proposals hF [] 200 ?_
      exact ⟨congrArg (fun z => some (xi z)) (show (-2 : Int) = cdN _ _ by rw [hE]; rfl), (pif_f (by rw [hE]; exact fun h => nomatch h)).symm⟩
    · refine vx_catch (name := xIa) hC.2.2.2.1 [⟨0, 9, 10, 21⟩] ⟨0, 9, 15, 23⟩ [⟨0, 9, 20, 25⟩] htab (fun z hz => by rw [List.mem_singleton.mp hz]; exact Or.inr ⟨by decide, _, (hC.2.2.2.2.1 _ (uw 655 lk13.1 rfl)), hR.1⟩) rfl (by decide) (hC.2.2.2.2.1 _ (uw 656 lk13.2.1 rfl)) (tB_use hT.2.1 _ tBc.2.1) hce hcv hcl ?_
      refine hand (j := 5) hC (by decide +kernel) (by decide) hW hS hl ?_
      refine wpw hC tkL_proposals hF [] 200 ?_
      exact ⟨congrArg (fun z => some (xi z)) (show (-3 : Int) = cdN _ _ by rw [hE]; rfl), (pif_f (by rw [hE]; exact fun h => nomatch h)).symm⟩
    · refine vx_catch (name := xIs) hC.2.2.2.1 [⟨0, 9, 10, 21⟩, ⟨0, 9, 15, 23⟩] ⟨0, 9, 20, 25⟩ [] htab (fun z hz => by
        rcases List.mem_cons.mp hz with rfl | hz
        · exact Or.inr ⟨by decide, _, (hC.2.2.2.2.1 _ (uw 655 lk13.1 rfl)), hR.2.1⟩
        · rw [List.mem_singleton.mp hz]; exact Or.inr ⟨by decide, _, (hC.2.2.2.2.1 _ (uw 656 lk13.2.1 rfl)), hR.2.2⟩) rfl (by decide) (hC.2.2.2.2.1 _ (uw 657 lk13.2.2 rfl)) (tB_use hT.2.1 _ tBc.2.2) hce hcv hcl ?_
      refine hand (j := 5) hC (by decide +kernel) (by decide) hW hS hl ?_
      refine wpw hC tkL_proposals hF [] 200 ?_
      exact ⟨congrArg (fun z => some (xi z)) (show (-4 : Int) = cdN _ _ by rw [hE]; rfl), (pif_f (by rw [hE]; exact fun h => nomatch h)).symm⟩
theorem kL_targets : mOKw iL_targets [(0, 85, 86, 21), (0, 85, 90, 23), (0, 85, 94, 25)] 3 := ⟨uw3 (List.mem_of_getElem? (i := 172) rfl) rfl, uw1 (List.mem_of_getElem? (i := 0) rfl) rfl, uw3 (List.mem_of_getElem? (i := 171) rfl) rfl, by decide +kernel⟩
set_option maxRecDepth 100000 in
set_option maxHeartbeats 1600000 in
theorem W_targets (mm : Mm) (o : Int64) (a y : Int) (ha : wr a = a) (hI : IA mm) : MetW iL_targets [(0, 85, 86, 21), (0, 85, 90, 23), (0, 85, 94, 25)] 10 [xr 1 0, xi a, xi y] mm o (wR (ck (ixC a (rd mm 5 0 6)) (ck (ixC (jdiv (lowC (jshr y 7) 6) 5) 3) (ck (ck (rgC (lowC y 361) 0 359) (rgC (lowC (jshr y 3) 120 - 60) (-90) 90)) (ck (rgC (1 + lowC (jshr y 5) 6) 1 6) (ck (rgC (lowC (jshr y 6) 50) 0 90) (ck (rgC (20 + lowC (jshr y 8) 81) 0 100) (ck (rgC (5 + lowC (jshr y 9) 46) 1 50) (ck (rgC (1 + lowC (jshr y 4) 5) 1 10) (stC (bz (rd mm 5 0 7 < 24))))))))))) (rd mm 5 0 7) (tgC mm a (lowC y 361) (lowC (jshr y 3) 120 - 60) (1 + lowC (jshr y 5) 6) (jdiv (lowC (jshr y 7) 6) 5) (lowC (jshr y 6) 50) (20 + lowC (jshr y 8) 81) (5 + lowC (jshr y 9) 46) (1 + lowC (jshr y 4) 5)) mm) := by
  refine MetW.of (by decide +kernel) rfl (Nat.le_of_ble_eq_true rfl) ⟨by decide, by decide⟩ ?_
  intro p l e s m args below meth c Q V D ad hC hN hT hR hst htab hok hF
  refine wpw0 (rt := 1) hC tkL_targets [] 200 ?_
  refine Wx.sT (y := iL_low) (k := 0) (avs := [_, _]) (rest := [_, _]) hC hN hT hst tkL_targets rfl rfl rfl kL_low ⟨by decide, by decide⟩ (M_low _ _ _ _ (by decide)) (fun _ _ _ h => h) rfl (Nat.le_of_ble_eq_true rfl) rfl rfl ⟨by decide, by decide⟩ ?_
  rintro r mm' o' ⟨rfl, rfl, rfl⟩
  refine wpw0 (rt := 1) hC tkL_targets [] 200 ?_
  refine Wx.sT (y := iL_low) (k := 0) (avs := [_, _]) (rest := [_, _, _]) hC hN hT hst tkL_targets rfl rfl rfl kL_low ⟨by decide, by decide⟩ (M_low _ _ _ _ (by decide)) (fun _ _ _ h => h) rfl (Nat.le_of_ble_eq_true rfl) rfl rfl ⟨by decide, by decide⟩ ?_
  rintro r mm' o' ⟨rfl, rfl, rfl⟩
  refine wpw0 (rt := 1) hC tkL_targets [] 200 ?_
  refine Wx.sT (y := iL_low) (k := 0) (avs := [_, _]) (rest := [_, _, _, _, _]) hC hN hT hst tkL_targets rfl rfl rfl kL_low ⟨by decide, by decide⟩ (M_low _ _ _ _ (by decide)) (fun _ _ _ h => h) rfl (Nat.le_of_ble_eq_true rfl) rfl rfl ⟨by decide, by decide⟩ ?_
  rintro r mm' o' ⟨rfl, rfl, rfl⟩
  refine wpw0 (rt := 1) hC tkL_targets [] 200 ?_
  refine Wx.sT (y := iL_low) (k := 0) (avs := [_, _]) (rest := [_, _, _, _, _]) hC hN hT hst tkL_targets rfl rfl rfl kL_low ⟨by decide, by decide⟩ (M_low _ _ _ _ (by decide)) (fun _ _ _ h => h) rfl (Nat.le_of_ble_eq_true rfl) rfl rfl ⟨by decide, by decide⟩ ?_
  rintro r mm' o' ⟨rfl, rfl, rfl⟩
  refine wpw0 (rt := 1) hC tkL_targets [] 200 ?_
  refine ⟨by decide, ?_⟩
  refine Wx.sT (y := iL_low) (k := 0) (avs := [_, _]) (rest := [_, _, _, _, _, _]) hC hN hT hst tkL_targets rfl rfl rfl kL_low ⟨by decide, by decide⟩ (M_low _ _ _ _ (by decide)) (fun _ _ _ h => h) rfl (Nat.le_of_ble_eq_true rfl) rfl rfl ⟨by decide, by decide⟩ ?_
  rintro r mm' o' ⟨rfl, rfl, rfl⟩
  refine wpw0 (rt := 1) hC tkL_targets [] 200 ?_
  refine Wx.sT (y := iL_low) (k := 0) (avs := [_, _]) (rest := [_, _, _, _, _, _, _, _]) hC hN hT hst tkL_targets rfl rfl rfl kL_low ⟨by decide, by decide⟩ (M_low _ _ _ _ (by decide)) (fun _ _ _ h => h) rfl (Nat.le_of_ble_eq_true rfl) rfl rfl ⟨by decide, by decide⟩ ?_
  rintro r mm' o' ⟨rfl, rfl, rfl⟩
  refine wpw0 (rt := 1) hC tkL_targets [] 200 ?_
  refine Wx.sT (y := iL_low) (k := 0) (avs := [_, _]) (rest := [_, _, _, _, _, _, _, _, _]) hC hN hT hst tkL_targets rfl rfl rfl kL_low ⟨by decide, by decide⟩ (M_low _ _ _ _ (by decide)) (fun _ _ _ h => h) rfl (Nat.le_of_ble_eq_true rfl) rfl rfl ⟨by decide, by decide⟩ ?_
  rintro r mm' o' ⟨rfl, rfl, rfl⟩
  refine wpw0 (rt := 1) hC tkL_targets [] 200 ?_
  refine Wx.sT (y := iL_low) (k := 0) (avs := [_, _]) (rest := [_, _, _, _, _, _, _, _, _, _]) hC hN hT hst tkL_targets rfl rfl rfl kL_low ⟨by decide, by decide⟩ (M_low _ _ _ _ (by decide)) (fun _ _ _ h => h) rfl (Nat.le_of_ble_eq_true rfl) rfl rfl ⟨by decide, by decide⟩ ?_
  rintro r mm' o' ⟨rfl, rfl, rfl⟩
  refine wpw0 (rt := 1) hC tkL_targets [] 200 ?_
  refine Wx.wcall (x := iL_targets) (y := iX10_target) (ks := 1) (avs := [_, _, _, _, _, _, _, _, _]) (rest := []) hC hN hT hst tkL_targets rfl rfl kX10_target rfl (M_target mm o a (lowC y 361) (lowC (jshr y 3) 120 - 60) (1 + lowC (jshr y 5) 6) (jdiv (lowC (jshr y 7) 6) 5) (lowC (jshr y 6) 50) (20 + lowC (jshr y 8) 81) (5 + lowC (jshr y 9) 46) (1 + lowC (jshr y 4) 5) ha (wr_low _ (by decide) (by decide)) (tg_w y).1 (tg_w y).2.1 (tg_w y).2.2.1 (wr_low _ (by decide) (by decide)) (tg_w y).2.2.2.1 (tg_w y).2.2.2.2.1 (tg_w y).2.2.2.2.2 hI) ⟨rfl, rfl⟩ rfl (Nat.le_of_ble_eq_true rfl) (by exact nol rfl) ?_ ?_
  · rintro r mm' o' ⟨hc9, rfl, rfl, rfl⟩
    refine wpw hC tkL_targets hF [] 200 ?_
    exact ⟨congrArg (fun z => some (xi z)) (show (_ : Int) = cdN _ _ by rw [hc9]; rfl), (pif_t hc9).symm⟩
  · rintro E mm' o' ⟨hE, rfl, rfl⟩ H locs ls ce q hW hS hl hce hcv hcl
    have hin : inE [xIx, xIa, xIs] (ck (ixC a (rd mm 5 0 6)) (ck (ixC (jdiv (lowC (jshr y 7) 6) 5) 3) (ck (ck (rgC (lowC y 361) 0 359) (rgC (lowC (jshr y 3) 120 - 60) (-90) 90)) (ck (rgC (1 + lowC (jshr y 5) 6) 1 6) (ck (rgC (lowC (jshr y 6) 50) 0 90) (ck (rgC (20 + lowC (jshr y 8) 81) 0 100) (ck (rgC (5 + lowC (jshr y 9) 46) 1 50) (ck (rgC (1 + lowC (jshr y 4) 5) 1 10) (stC (bz (rd mm 5 0 7 < 24))))))))))) := by repeat' first | exact inE_ix (by decide) | exact inE_rg (by decide) | exact inE_or (by decide) | exact inE_st (by decide) | refine inE_ck ?_ ?_
    have hmem := hin E hE
    simp only [List.mem_cons, List.not_mem_nil, or_false] at hmem
    rcases hmem with rfl | rfl | rfl
    · refine vx_catch (name := xIx) hC.2.2.2.1 [] ⟨0, 85, 86, 21⟩ [⟨0, 85, 90, 23⟩, ⟨0, 85, 94, 25⟩] htab (fun z hz => absurd hz List.not_mem_nil) rfl (by decide) (hC.2.2.2.2.1 _ (uw 655 lk13.1 rfl)) (tB_use hT.2.1 _ tBc.1) hce hcv hcl ?_
      refine hand_n (j := 3) hC (by decide +kernel) (by decide) hW hS hl ?_
      refine wpw hC tkL_targets hF [] 200 ?_
      exact ⟨congrArg (fun z => some (xi z)) (show (-2 : Int) = cdN _ _ by rw [hE]; rfl), (pif_f (by rw [hE]; exact fun h => nomatch h)).symm⟩
    · refine vx_catch (name := xIa) hC.2.2.2.1 [⟨0, 85, 86, 21⟩] ⟨0, 85, 90, 23⟩ [⟨0, 85, 94, 25⟩] htab (fun z hz => by rw [List.mem_singleton.mp hz]; exact Or.inr ⟨by decide, _, (hC.2.2.2.2.1 _ (uw 655 lk13.1 rfl)), hR.1⟩) rfl (by decide) (hC.2.2.2.2.1 _ (uw 656 lk13.2.1 rfl)) (tB_use hT.2.1 _ tBc.2.1) hce hcv hcl ?_
      refine hand_n (j := 3) hC (by decide +kernel) (by decide) hW hS hl ?_
      refine wpw hC tkL_targets hF [] 200 ?_
      exact ⟨congrArg (fun z => some (xi z)) (show (-3 : Int) = cdN _ _ by rw [hE]; rfl), (pif_f (by rw [hE]; exact fun h => nomatch h)).symm⟩
    · refine vx_catch (name := xIs) hC.2.2.2.1 [⟨0, 85, 86, 21⟩, ⟨0, 85, 90, 23⟩] ⟨0, 85, 94, 25⟩ [] htab (fun z hz => by
        rcases List.mem_cons.mp hz with rfl | hz
        · exact Or.inr ⟨by decide, _, (hC.2.2.2.2.1 _ (uw 655 lk13.1 rfl)), hR.2.1⟩
        · rw [List.mem_singleton.mp hz]; exact Or.inr ⟨by decide, _, (hC.2.2.2.2.1 _ (uw 656 lk13.2.1 rfl)), hR.2.2⟩) rfl (by decide) (hC.2.2.2.2.1 _ (uw 657 lk13.2.2 rfl)) (tB_use hT.2.1 _ tBc.2.2) hce hcv hcl ?_
      refine hand_n (j := 3) hC (by decide +kernel) (by decide) hW hS hl ?_
      refine wpw hC tkL_targets hF [] 200 ?_
      exact ⟨congrArg (fun z => some (xi z)) (show (-4 : Int) = cdN _ _ by rw [hE]; rfl), (pif_f (by rw [hE]; exact fun h => nomatch h)).symm⟩
theorem kL_alarms : mOKw iL_alarms [(0, 43, 44, 21), (0, 43, 49, 23), (0, 43, 54, 25)] 7 := ⟨uw3 (List.mem_of_getElem? (i := 217) rfl) rfl, uw1 (List.mem_of_getElem? (i := 0) rfl) rfl, uw3 (List.mem_of_getElem? (i := 216) rfl) rfl, by decide +kernel⟩
set_option maxRecDepth 100000 in
set_option maxHeartbeats 1600000 in
theorem W_alarms (mm : Mm) (o : Int64) (g u n f t y : Int) (hg : wr g = g) (hu : wr u = u) (hn : wr n = n) (hf : wr f = f) (ht : wr t = t) (hI : IA mm) : MetW iL_alarms [(0, 43, 44, 21), (0, 43, 49, 23), (0, 43, 54, 25)] 11 [xr 1 0, xi g, xi u, xi n, xi f, xi t, xi y] mm o (wR (ck (ixC g 4) (ck (ixC 0 3) (ck (ixC n 30) (ck (ixC f 24) (ck (ixC t 24) (ck (rgC u 1 9) (ck (ck (rgC (lowC y 360) 0 359) (rgC (lowC (jshr y 3) 60 - 30) (-90) 90)) (ck (rgC (1 + lowC (jshr y 5) 6) 1 6) (ck (orC f t) (stC (bz (rd mm 5 0 8 < 10)))))))))))) (rd mm 5 0 8) (alC mm g u (lowC y 360) (lowC (jshr y 3) 60 - 30) (1 + lowC (jshr y 5) 6) 0 n f t) mm) := by
  refine MetW.of (by decide +kernel) rfl (Nat.le_of_ble_eq_true rfl) ⟨by decide, by decide⟩ ?_
  intro p l e s m args below meth c Q V D ad hC hN hT hR hst htab hok hF
  refine wpw0 (rt := 1) hC tkL_alarms [] 200 ?_
  refine Wx.sT (y := iL_low) (k := 0) (avs := [_, _]) (rest := [_, _, _]) hC hN hT hst tkL_alarms rfl rfl rfl kL_low ⟨by decide, by decide⟩ (M_low _ _ _ _ (by decide)) (fun _ _ _ h => h) rfl (Nat.le_of_ble_eq_true rfl) rfl rfl ⟨by decide, by decide⟩ ?_
  rintro r mm' o' ⟨rfl, rfl, rfl⟩
  refine wpw0 (rt := 1) hC tkL_alarms [] 200 ?_
  refine Wx.sT (y := iL_low) (k := 0) (avs := [_, _]) (rest := [_, _, _, _]) hC hN hT hst tkL_alarms rfl rfl rfl kL_low ⟨by decide, by decide⟩ (M_low _ _ _ _ (by decide)) (fun _ _ _ h => h) rfl (Nat.le_of_ble_eq_true rfl) rfl rfl ⟨by decide, by decide⟩ ?_
  rintro r mm' o' ⟨rfl, rfl, rfl⟩
  refine wpw0 (rt := 1) hC tkL_alarms [] 200 ?_
  refine Wx.sT (y := iL_low) (k := 0) (avs := [_, _]) (rest := [_, _, _, _, _, _]) hC hN hT hst tkL_alarms rfl rfl rfl kL_low ⟨by decide, by decide⟩ (M_low _ _ _ _ (by decide)) (fun _ _ _ h => h) rfl (Nat.le_of_ble_eq_true rfl) rfl rfl ⟨by decide, by decide⟩ ?_
  rintro r mm' o' ⟨rfl, rfl, rfl⟩
  refine wpw0 (rt := 1) hC tkL_alarms [] 200 ?_
  refine Wx.wcall (x := iL_alarms) (y := iX10_alert) (ks := 1) (avs := [_, _, _, _, _, _, _, _, _]) (rest := []) hC hN hT hst tkL_alarms rfl rfl kX10_alert rfl (M_alert mm o g u (lowC y 360) (lowC (jshr y 3) 60 - 30) (1 + lowC (jshr y 5) 6) 0 n f t hg hu (wr_low _ (by decide) (by decide)) (al_w y).1 (al_w y).2 rfl hn hf ht hI) ⟨rfl, rfl⟩ rfl (Nat.le_of_ble_eq_true rfl) (by exact nol rfl) ?_ ?_
  · rintro r mm' o' ⟨hc9, rfl, rfl, rfl⟩
    refine wpw hC tkL_alarms hF [] 200 ?_
    exact ⟨congrArg (fun z => some (xi z)) (show (_ : Int) = cdN _ _ by rw [hc9]; rfl), (pif_t hc9).symm⟩
  · rintro E mm' o' ⟨hE, rfl, rfl⟩ H locs ls ce q hW hS hl hce hcv hcl
    have hin : inE [xIx, xIa, xIs] (ck (ixC g 4) (ck (ixC 0 3) (ck (ixC n 30) (ck (ixC f 24) (ck (ixC t 24) (ck (rgC u 1 9) (ck (ck (rgC (lowC y 360) 0 359) (rgC (lowC (jshr y 3) 60 - 30) (-90) 90)) (ck (rgC (1 + lowC (jshr y 5) 6) 1 6) (ck (orC f t) (stC (bz (rd mm 5 0 8 < 10)))))))))))) := by repeat' first | exact inE_ix (by decide) | exact inE_rg (by decide) | exact inE_or (by decide) | exact inE_st (by decide) | refine inE_ck ?_ ?_
    have hmem := hin E hE
    simp only [List.mem_cons, List.not_mem_nil, or_false] at hmem
    rcases hmem with rfl | rfl | rfl
    · refine vx_catch (name := xIx) hC.2.2.2.1 [] ⟨0, 43, 44, 21⟩ [⟨0, 43, 49, 23⟩, ⟨0, 43, 54, 25⟩] htab (fun z hz => absurd hz List.not_mem_nil) rfl (by decide) (hC.2.2.2.2.1 _ (uw 655 lk13.1 rfl)) (tB_use hT.2.1 _ tBc.1) hce hcv hcl ?_
      refine hand (j := 7) hC (by decide +kernel) (by decide) hW hS hl ?_
      refine wpw hC tkL_alarms hF [] 200 ?_
      exact ⟨congrArg (fun z => some (xi z)) (show (-2 : Int) = cdN _ _ by rw [hE]; rfl), (pif_f (by rw [hE]; exact fun h => nomatch h)).symm⟩
    · refine vx_catch (name := xIa) hC.2.2.2.1 [⟨0, 43, 44, 21⟩] ⟨0, 43, 49, 23⟩ [⟨0, 43, 54, 25⟩] htab (fun z hz => by rw [List.mem_singleton.mp hz]; exact Or.inr ⟨by decide, _, (hC.2.2.2.2.1 _ (uw 655 lk13.1 rfl)), hR.1⟩) rfl (by decide) (hC.2.2.2.2.1 _ (uw 656 lk13.2.1 rfl)) (tB_use hT.2.1 _ tBc.2.1) hce hcv hcl ?_
      refine hand (j := 7) hC (by decide +kernel) (by decide) hW hS hl ?_
      refine wpw hC tkL_alarms hF [] 200 ?_
      exact ⟨congrArg (fun z => some (xi z)) (show (-3 : Int) = cdN _ _ by rw [hE]; rfl), (pif_f (by rw [hE]; exact fun h => nomatch h)).symm⟩
    · refine vx_catch (name := xIs) hC.2.2.2.1 [⟨0, 43, 44, 21⟩, ⟨0, 43, 49, 23⟩] ⟨0, 43, 54, 25⟩ [] htab (fun z hz => by
        rcases List.mem_cons.mp hz with rfl | hz
        · exact Or.inr ⟨by decide, _, (hC.2.2.2.2.1 _ (uw 655 lk13.1 rfl)), hR.2.1⟩
        · rw [List.mem_singleton.mp hz]; exact Or.inr ⟨by decide, _, (hC.2.2.2.2.1 _ (uw 656 lk13.2.1 rfl)), hR.2.2⟩) rfl (by decide) (hC.2.2.2.2.1 _ (uw 657 lk13.2.2 rfl)) (tB_use hT.2.1 _ tBc.2.2) hce hcv hcl ?_
      refine hand (j := 7) hC (by decide +kernel) (by decide) hW hS hl ?_
      refine wpw hC tkL_alarms hF [] 200 ?_
      exact ⟨congrArg (fun z => some (xi z)) (show (-4 : Int) = cdN _ _ by rw [hE]; rfl), (pif_f (by rw [hE]; exact fun h => nomatch h)).symm⟩
