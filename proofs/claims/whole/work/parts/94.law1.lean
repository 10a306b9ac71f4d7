/-! ===== the law, case by case, 1 ===== -/
section CTX
variable {p : Program} {l : Launch} {e : Env} {s : State} {m : MethodId} {args : Array Value} {below : List Frame} {meth : Method} {c : Code} {cells slots : Nat} {Q : State → Prop} {D : DD} {ad : Nat → Int → Nat} {A : Nat → Prop} {N : Nat} {xs : Nat → Int32}
def tbW_0 : CT := [(172, .aload_n 1, 173, 0, 0, 0, 0, 0, 0, 0), (173, .aload_n 0, 174, 0, 0, 0, 0, 0, 0, 0), (174, .iload 4, 176, 0, 0, 0, 0, 0, 0, 0), (176, .iconst 1, 177, 0, 0, 0, 0, 0, 0, 0), (177, .iadd, 178, 0, 0, 0, 0, 0, 0, 0), (178, .iaload, 179, 0, 0, 0, 0, 0, 0, 0), (179, .aload_n 0, 180, 0, 0, 0, 0, 0, 0, 0), (180, .iload 4, 182, 0, 0, 0, 0, 0, 0, 0), (182, .iconst 2, 183, 0, 0, 0, 0, 0, 0, 0), (183, .iadd, 184, 0, 0, 0, 0, 0, 0, 0), (184, .iaload, 185, 0, 0, 0, 0, 0, 0, 0), (185, .aload_n 0, 186, 0, 0, 0, 0, 0, 0, 0), (186, .iload 4, 188, 0, 0, 0, 0, 0, 0, 0), (188, .iconst 3, 189, 0, 0, 0, 0, 0, 0, 0), (189, .iadd, 190, 0, 0, 0, 0, 0, 0, 0), (190, .iaload, 191, 0, 0, 0, 0, 0, 0, 0), (191, .invokestatic 110, 194, 0, 0, 0, 0, 145, 457, 0), (194, .istore 5, 196, 0, 0, 0, 0, 0, 0, 0), (196, .aload_n 2, 197, 0, 0, 0, 0, 0, 0, 0), (197, .aload_n 0, 198, 0, 0, 0, 0, 0, 0, 0), (198, .iload 4, 200, 0, 0, 0, 0, 0, 0, 0), (200, .iconst 1, 201, 0, 0, 0, 0, 0, 0, 0), (201, .iadd, 202, 0, 0, 0, 0, 0, 0, 0), (202, .iaload, 203, 0, 0, 0, 0, 0, 0, 0), (203, .aload_n 0, 204, 0, 0, 0, 0, 0, 0, 0), (204, .iload 4, 206, 0, 0, 0, 0, 0, 0, 0), (206, .iconst 2, 207, 0, 0, 0, 0, 0, 0, 0), (207, .iadd, 208, 0, 0, 0, 0, 0, 0, 0), (208, .iaload, 209, 0, 0, 0, 0, 0, 0, 0), (209, .aload_n 0, 210, 0, 0, 0, 0, 0, 0, 0), (210, .iload 4, 212, 0, 0, 0, 0, 0, 0, 0), (212, .iconst 3, 213, 0, 0, 0, 0, 0, 0, 0), (213, .iadd, 214, 0, 0, 0, 0, 0, 0, 0), (214, .iaload, 215, 0, 0, 0, 0, 0, 0, 0), (215, .invokevirtual 115, 218, 0, 0, 0, 0, 83, 1133, 0), (218, .aload_n 2, 219, 0, 0, 0, 0, 0, 0, 0), (219, .invokevirtual 116, 222, 0, 0, 0, 0, 71, 1129, 0), (222, .iload 5, 224, 0, 0, 0, 0, 0, 0, 0), (224, .if_icmp .eq 5, 227, 229, 229, 0, 0, 0, 0, 0), (227, .iconst 0, 228, 0, 0, 0, 0, 0, 0, 0), (228, .ireturn, 229, 0, 0, 0, 0, 0, 0, 0), (229, .goto 2058, 232, 2287, 2287, 0, 0, 0, 0, 0)]
theorem tkW_0 : tbW_0.all (cOK RL code) = true := by decide +kernel
set_option maxRecDepth 100000 in
set_option maxHeartbeats 400000 in
theorem law_0 (h0 : LC p l s m args meth c D ad A N xs) {i : Int} (i0 : 0 ≤ i) (i1 : i + 9 < N) (hf : cells + 11 ≤ room_1.cells ∧ slots + 66 ≤ room_1.slots) {a mo : Mm} {o : Int64} (h : FU a mo) (kk : ∀ a' m' o', FU a' m' → Wx p l e room_1 s m args below meth c (cells + 11) (slots + 66) Q lawV D ad A 7 2287 (LL i) [] (mix a' m') o') : Wx p l e room_1 s m args below meth c cells slots Q lawV D ad A 7 172 (LL i) [] (mix a mo) o := by
  obtain ⟨hC, hN, hT, hR, hst, hX, hb, hN0⟩ := h0
  have hij := hC.2.2.2.2.2.2.2.2.1
  have hIA := h.2.2.2.2.2.2.2.1
  have hMV := FU_MV h
  have hIM := hMV.1
  have hIC := FU_IC h
  have hw26 := h.2.2.2.2.2.1
  have hw45 := h.2.2.2.2.2.2.1
  have hdat := FU_dat h
  refine wpl hC ⟨Nat.le_trans (by omega) hf.1, Nat.le_trans (by omega) hf.2⟩ tkW_0 [173] 3 ?_
  refine Wx.reads' hC hX hb hN0 rfl rfl i0 law00 [1, 2, 3] 173 _ (by decide +kernel) (by (repeat' first | exact fun _ h => absurd h List.not_mem_nil | refine List.forall_mem_cons.mpr ⟨?_, ?_⟩) <;> omega) (pc' := 191) (by decide +kernel) (S' := [xi (scr xs (i + 3)), xi (scr xs (i + 2)), xi (scr xs (i + 1)), xr 1 0]) rfl ?_
  have hrd : ∀ (k9 : Int) (a9 : Mm) (o9 : Int64) (c9 s9 : Nat), Wx p l e room_1 s m args below meth c c9 s9 Q lawV D ad A 7 215 (lset (LL i) 5 (xi k9)) [xi (scr xs (i + 3)), xi (scr xs (i + 2)), xi (scr xs (i + 1)), xr 40 0] (mix a9 mo) o9 → Wx p l e room_1 s m args below meth c c9 s9 Q lawV D ad A 7 197 (lset (LL i) 5 (xi k9)) [xr 40 0] (mix a9 mo) o9 := fun k9 a9 o9 c9 s9 h9 => by
    exact Wx.reads' hC hX hb hN0 rfl rfl i0 law00 [1, 2, 3] 197 _ (by decide +kernel) (by (repeat' first | exact fun _ h => absurd h List.not_mem_nil | refine List.forall_mem_cons.mpr ⟨?_, ?_⟩) <;> omega) (pc' := 215) (by decide +kernel) (S' := [xi (scr xs (i + 3)), xi (scr xs (i + 2)), xi (scr xs (i + 1)), xr 40 0]) rfl h9
  have w1 := wr_scr xs (i + 1)
  have w2 := wr_scr xs (i + 2)
  have w3 := wr_scr xs (i + 3)
  generalize scr xs (i + 1) = p1 at w1 hrd ⊢
  generalize scr xs (i + 2) = p2 at w2 hrd ⊢
  generalize scr xs (i + 3) = p3 at w3 hrd ⊢
  have hc := call_place h p1 p2 p3
  have hM := W_place a o p1 p2 p3 w1 w2 w3 
  refine Wx.lW (y := iL_place) (avs := [_, _, _, _]) (rest := []) hC hN hT hR hst tkW_0 rfl rfl rfl kL_place (by decide +kernel) hM rfl (Nat.zero_le _) (by repeat' first | exact fun _ h => absurd h List.not_mem_nil | exact cl10 | exact cl35 | exact trivial | refine List.forall_mem_cons.mpr ⟨?_, ?_⟩) ⟨Nat.le_trans (by omega) hf.1, Nat.le_trans (by omega) hf.2⟩ ?_
  rintro r a' o' ⟨rfl, rfl, rfl⟩
  refine wpl hC ⟨Nat.le_trans (by omega) hf.1, Nat.le_trans (by omega) hf.2⟩ tkW_0 [197] 4 ?_
  refine hrd _ _ _ _ _ ?_
  refine Wx.lV (V' := moV) (g := fun m => mix _ m) (y := iX11_place) (avs := [_, _, _]) (rest := []) hC hN (loc_mo _) (Or.inr fun r m' o' hF => hF.2.2.symm) (wf_mo hij) mo40 tkW_0 rfl rfl kX11_place (by decide +kernel) (M_mplace p1 p2 p3 _ _ w1 w2 w3 ) ⟨rfl, rfl⟩ rfl (Nat.zero_le _) (by repeat' first | exact fun _ h => absurd h List.not_mem_nil | exact trivial | refine List.forall_mem_cons.mpr ⟨?_, ?_⟩) ⟨Nat.le_trans (by omega) hf.1, Nat.le_trans (by omega) hf.2⟩ ?_
  rintro r m' o' ⟨rfl, rfl, rfl⟩
  refine wpl hC ⟨Nat.le_trans (by omega) hf.1, Nat.le_trans (by omega) hf.2⟩ tkW_0 [] 4 ?_
  refine Wx.lV (V' := moV) (g := fun m => mix _ m) (y := iX11_thrown) (avs := []) (rest := []) hC hN (loc_mo _) (Or.inr fun r m' o' hF => hF.2.2.symm) (wf_mo hij) mo40 tkW_0 rfl rfl kX11_thrown (by decide +kernel) (M_thrown _ _) ⟨rfl, rfl⟩ rfl (Nat.zero_le _) (fun _ h => absurd h List.not_mem_nil) ⟨Nat.le_trans (by omega) hf.1, Nat.le_trans (by omega) hf.2⟩ ?_
  rintro r m' o' ⟨rfl, rfl, rfl⟩
  refine wpl hC ⟨Nat.le_trans (by omega) hf.1, Nat.le_trans (by omega) hf.2⟩ tkW_0 [2287] 30 ?_
  exact ⟨fun _ => Wx.widen (k := cells + 11) (n := slots + 66) (by omega) (by omega) (Wx.pick [0, 1, 2, 3, 4] rfl (kk _ _ _ hc.1)), fun hne => absurd (congrArg wr (hc.2)) hne⟩
def tbW_1 : CT := [(232, .aload_n 1, 233, 0, 0, 0, 0, 0, 0, 0), (233, .aload_n 0, 234, 0, 0, 0, 0, 0, 0, 0), (234, .iload 4, 236, 0, 0, 0, 0, 0, 0, 0), (236, .iconst 1, 237, 0, 0, 0, 0, 0, 0, 0), (237, .iadd, 238, 0, 0, 0, 0, 0, 0, 0), (238, .iaload, 239, 0, 0, 0, 0, 0, 0, 0), (239, .aload_n 3, 240, 0, 0, 0, 0, 0, 0, 0), (240, .invokestatic 120, 243, 0, 0, 0, 0, 146, 556, 0), (243, .istore 5, 245, 0, 0, 0, 0, 0, 0, 0), (245, .aload_n 2, 246, 0, 0, 0, 0, 0, 0, 0), (246, .aload_n 0, 247, 0, 0, 0, 0, 0, 0, 0), (247, .iload 4, 249, 0, 0, 0, 0, 0, 0, 0), (249, .iconst 1, 250, 0, 0, 0, 0, 0, 0, 0), (250, .iadd, 251, 0, 0, 0, 0, 0, 0, 0), (251, .iaload, 252, 0, 0, 0, 0, 0, 0, 0), (252, .invokevirtual 123, 255, 0, 0, 0, 0, 84, 1149, 0), (255, .istore 6, 257, 0, 0, 0, 0, 0, 0, 0), (257, .aload_n 2, 258, 0, 0, 0, 0, 0, 0, 0), (258, .invokevirtual 116, 261, 0, 0, 0, 0, 71, 1129, 0), (261, .iload 5, 263, 0, 0, 0, 0, 0, 0, 0), (263, .if_icmp .eq 5, 266, 268, 268, 0, 0, 0, 0, 0), (266, .iconst 0, 267, 0, 0, 0, 0, 0, 0, 0), (267, .ireturn, 268, 0, 0, 0, 0, 0, 0, 0), (268, .iload 5, 270, 0, 0, 0, 0, 0, 0, 0), (270, .ifCond .ne 15, 273, 285, 285, 0, 0, 0, 0, 0), (273, .aload_n 3, 274, 0, 0, 0, 0, 0, 0, 0), (274, .iconst 0, 275, 0, 0, 0, 0, 0, 0, 0), (275, .laload, 276, 0, 0, 0, 0, 0, 0, 0), (276, .iload 6, 278, 0, 0, 0, 0, 0, 0, 0), (278, .i2l, 279, 0, 0, 0, 0, 0, 0, 0), (279, .lcmp, 280, 0, 0, 0, 0, 0, 0, 0), (280, .ifCond .eq 5, 283, 285, 285, 0, 0, 0, 0, 0), (283, .iconst 0, 284, 0, 0, 0, 0, 0, 0, 0), (284, .ireturn, 285, 0, 0, 0, 0, 0, 0, 0), (285, .goto 2002, 288, 2287, 2287, 0, 0, 0, 0, 0)]
theorem tkW_1 : tbW_1.all (cOK RL code) = true := by decide +kernel
set_option maxRecDepth 100000 in
set_option maxHeartbeats 400000 in
theorem law_1 (h0 : LC p l s m args meth c D ad A N xs) {i : Int} (i0 : 0 ≤ i) (i1 : i + 9 < N) (hf : cells + 11 ≤ room_1.cells ∧ slots + 66 ≤ room_1.slots) {a mo : Mm} {o : Int64} (h : FU a mo) (kk : ∀ a' m' o', FU a' m' → Wx p l e room_1 s m args below meth c (cells + 11) (slots + 66) Q lawV D ad A 7 2287 (LL i) [] (mix a' m') o') : Wx p l e room_1 s m args below meth c cells slots Q lawV D ad A 7 232 (LL i) [] (mix a mo) o := by
  obtain ⟨hC, hN, hT, hR, hst, hX, hb, hN0⟩ := h0
  have hij := hC.2.2.2.2.2.2.2.2.1
  have hIA := h.2.2.2.2.2.2.2.1
  have hMV := FU_MV h
  have hIM := hMV.1
  have hIC := FU_IC h
  have hw26 := h.2.2.2.2.2.1
  have hw45 := h.2.2.2.2.2.2.1
  have hdat := FU_dat h
  refine wpl hC ⟨Nat.le_trans (by omega) hf.1, Nat.le_trans (by omega) hf.2⟩ tkW_1 [233] 3 ?_
  refine Wx.reads' hC hX hb hN0 rfl rfl i0 law00 [1] 233 _ (by decide +kernel) (by (repeat' first | exact fun _ h => absurd h List.not_mem_nil | refine List.forall_mem_cons.mpr ⟨?_, ?_⟩) <;> omega) (pc' := 239) (by decide +kernel) (S' := [xi (scr xs (i + 1)), xr 1 0]) rfl ?_
  have hrd : ∀ (k9 : Int) (a9 : Mm) (o9 : Int64) (c9 s9 : Nat), Wx p l e room_1 s m args below meth c c9 s9 Q lawV D ad A 7 252 (lset (LL i) 5 (xi k9)) [xi (scr xs (i + 1)), xr 40 0] (mix a9 mo) o9 → Wx p l e room_1 s m args below meth c c9 s9 Q lawV D ad A 7 246 (lset (LL i) 5 (xi k9)) [xr 40 0] (mix a9 mo) o9 := fun k9 a9 o9 c9 s9 h9 => by
    exact Wx.reads' hC hX hb hN0 rfl rfl i0 law00 [1] 246 _ (by decide +kernel) (by (repeat' first | exact fun _ h => absurd h List.not_mem_nil | refine List.forall_mem_cons.mpr ⟨?_, ?_⟩) <;> omega) (pc' := 252) (by decide +kernel) (S' := [xi (scr xs (i + 1)), xr 40 0]) rfl h9
  have w1 := wr_scr xs (i + 1)
  generalize scr xs (i + 1) = p1 at w1 hrd ⊢
  refine wpl hC ⟨Nat.le_trans (by omega) hf.1, Nat.le_trans (by omega) hf.2⟩ tkW_1 [] 3 ?_
  have hc := call_moon h p1
  have hM := W_moon a o p1 w1 
  refine Wx.lW (y := iL_moon) (avs := [_, _, _]) (rest := []) hC hN hT hR hst tkW_1 rfl rfl rfl kL_moon (by decide +kernel) hM rfl (Nat.zero_le _) (by repeat' first | exact fun _ h => absurd h List.not_mem_nil | exact cl10 | exact cl35 | exact trivial | refine List.forall_mem_cons.mpr ⟨?_, ?_⟩) ⟨Nat.le_trans (by omega) hf.1, Nat.le_trans (by omega) hf.2⟩ ?_
  rintro r a' o' ⟨rfl, rfl, rfl⟩
  refine wpl hC ⟨Nat.le_trans (by omega) hf.1, Nat.le_trans (by omega) hf.2⟩ tkW_1 [246] 4 ?_
  refine hrd _ _ _ _ _ ?_
  refine Wx.lV (V' := moV) (g := fun m => mix _ m) (y := iX11_moon) (avs := [_]) (rest := []) hC hN (loc_mo _) (Or.inr fun r m' o' hF => hF.2.2.symm) (wf_mo hij) mo40 tkW_1 rfl rfl kX11_moon (by decide +kernel) (M_mmoon p1 _ _ w1 ) ⟨rfl, rfl⟩ rfl (Nat.zero_le _) (by repeat' first | exact fun _ h => absurd h List.not_mem_nil | exact trivial | refine List.forall_mem_cons.mpr ⟨?_, ?_⟩) ⟨Nat.le_trans (by omega) hf.1, Nat.le_trans (by omega) hf.2⟩ ?_
  rintro r m' o' ⟨rfl, rfl, rfl⟩
  refine wpl hC ⟨Nat.le_trans (by omega) hf.1, Nat.le_trans (by omega) hf.2⟩ tkW_1 [] 4 ?_
  refine Wx.lV (V' := moV) (g := fun m => mix _ m) (y := iX11_thrown) (avs := []) (rest := []) hC hN (loc_mo _) (Or.inr fun r m' o' hF => hF.2.2.symm) (wf_mo hij) mo40 tkW_1 rfl rfl kX11_thrown (by decide +kernel) (M_thrown _ _) ⟨rfl, rfl⟩ rfl (Nat.zero_le _) (fun _ h => absurd h List.not_mem_nil) ⟨Nat.le_trans (by omega) hf.1, Nat.le_trans (by omega) hf.2⟩ ?_
  rintro r m' o' ⟨rfl, rfl, rfl⟩
  refine wpl hC ⟨Nat.le_trans (by omega) hf.1, Nat.le_trans (by omega) hf.2⟩ tkW_1 [2287] 30 ?_
  refine ⟨fun _ => ⟨fun _ => Wx.widen (k := cells + 11) (n := slots + 66) (by omega) (by omega) (Wx.pick [0, 1, 2, 3, 4] rfl (kk _ _ _ hc.1.1)), fun hk => ?_⟩, fun hne => absurd (congrArg wr (hc.1.2)) hne⟩
  have hcn := cdX_0 (by decide) hk
  exact ⟨rfl, fun _ => Wx.widen (k := cells + 11) (n := slots + 66) (by omega) (by omega) (Wx.pick [0, 1, 2, 3, 4] rfl (kk _ _ _ hc.1.1)), fun hne => absurd (cmp0 ((pif_t hcn).trans (congrArg Int32.toInt64 (congrArg I (hc.2 hcn))))) hne⟩
def tbW_2 : CT := [(288, .aload_n 1, 289, 0, 0, 0, 0, 0, 0, 0), (289, .aload_n 0, 290, 0, 0, 0, 0, 0, 0, 0), (290, .iload 4, 292, 0, 0, 0, 0, 0, 0, 0), (292, .iconst 1, 293, 0, 0, 0, 0, 0, 0, 0), (293, .iadd, 294, 0, 0, 0, 0, 0, 0, 0), (294, .iaload, 295, 0, 0, 0, 0, 0, 0, 0), (295, .aload_n 0, 296, 0, 0, 0, 0, 0, 0, 0), (296, .iload 4, 298, 0, 0, 0, 0, 0, 0, 0), (298, .iconst 2, 299, 0, 0, 0, 0, 0, 0, 0), (299, .iadd, 300, 0, 0, 0, 0, 0, 0, 0), (300, .iaload, 301, 0, 0, 0, 0, 0, 0, 0), (301, .aload_n 0, 302, 0, 0, 0, 0, 0, 0, 0), (302, .iload 4, 304, 0, 0, 0, 0, 0, 0, 0), (304, .iconst 3, 305, 0, 0, 0, 0, 0, 0, 0), (305, .iadd, 306, 0, 0, 0, 0, 0, 0, 0), (306, .iaload, 307, 0, 0, 0, 0, 0, 0, 0), (307, .aload_n 0, 308, 0, 0, 0, 0, 0, 0, 0), (308, .iload 4, 310, 0, 0, 0, 0, 0, 0, 0), (310, .iconst 4, 311, 0, 0, 0, 0, 0, 0, 0), (311, .iadd, 312, 0, 0, 0, 0, 0, 0, 0), (312, .iaload, 313, 0, 0, 0, 0, 0, 0, 0), (313, .aload_n 0, 314, 0, 0, 0, 0, 0, 0, 0), (314, .iload 4, 316, 0, 0, 0, 0, 0, 0, 0), (316, .iconst 5, 317, 0, 0, 0, 0, 0, 0, 0), (317, .iadd, 318, 0, 0, 0, 0, 0, 0, 0), (318, .iaload, 319, 0, 0, 0, 0, 0, 0, 0), (319, .invokestatic 124, 322, 0, 0, 0, 0, 147, 563, 0), (322, .istore 5, 324, 0, 0, 0, 0, 0, 0, 0), (324, .aload_n 2, 325, 0, 0, 0, 0, 0, 0, 0), (325, .aload_n 0, 326, 0, 0, 0, 0, 0, 0, 0), (326, .iload 4, 328, 0, 0, 0, 0, 0, 0, 0), (328, .iconst 1, 329, 0, 0, 0, 0, 0, 0, 0), (329, .iadd, 330, 0, 0, 0, 0, 0, 0, 0), (330, .iaload, 331, 0, 0, 0, 0, 0, 0, 0), (331, .aload_n 0, 332, 0, 0, 0, 0, 0, 0, 0), (332, .iload 4, 334, 0, 0, 0, 0, 0, 0, 0), (334, .iconst 2, 335, 0, 0, 0, 0, 0, 0, 0), (335, .iadd, 336, 0, 0, 0, 0, 0, 0, 0), (336, .iaload, 337, 0, 0, 0, 0, 0, 0, 0), (337, .aload_n 0, 338, 0, 0, 0, 0, 0, 0, 0), (338, .iload 4, 340, 0, 0, 0, 0, 0, 0, 0), (340, .iconst 3, 341, 0, 0, 0, 0, 0, 0, 0), (341, .iadd, 342, 0, 0, 0, 0, 0, 0, 0), (342, .iaload, 343, 0, 0, 0, 0, 0, 0, 0), (343, .aload_n 0, 344, 0, 0, 0, 0, 0, 0, 0), (344, .iload 4, 346, 0, 0, 0, 0, 0, 0, 0), (346, .iconst 4, 347, 0, 0, 0, 0, 0, 0, 0), (347, .iadd, 348, 0, 0, 0, 0, 0, 0, 0), (348, .iaload, 349, 0, 0, 0, 0, 0, 0, 0), (349, .aload_n 0, 350, 0, 0, 0, 0, 0, 0, 0), (350, .iload 4, 352, 0, 0, 0, 0, 0, 0, 0), (352, .iconst 5, 353, 0, 0, 0, 0, 0, 0, 0), (353, .iadd, 354, 0, 0, 0, 0, 0, 0, 0), (354, .iaload, 355, 0, 0, 0, 0, 0, 0, 0), (355, .invokevirtual 127, 358, 0, 0, 0, 0, 86, 1153, 0), (358, .aload_n 2, 359, 0, 0, 0, 0, 0, 0, 0), (359, .invokevirtual 116, 362, 0, 0, 0, 0, 71, 1129, 0), (362, .iload 5, 364, 0, 0, 0, 0, 0, 0, 0), (364, .if_icmp .eq 5, 367, 369, 369, 0, 0, 0, 0, 0), (367, .iconst 0, 368, 0, 0, 0, 0, 0, 0, 0), (368, .ireturn, 369, 0, 0, 0, 0, 0, 0, 0), (369, .goto 1918, 372, 2287, 2287, 0, 0, 0, 0, 0)]
theorem tkW_2 : tbW_2.all (cOK RL code) = true := by decide +kernel
set_option maxRecDepth 100000 in
set_option maxHeartbeats 400000 in
theorem law_2 (h0 : LC p l s m args meth c D ad A N xs) {i : Int} (i0 : 0 ≤ i) (i1 : i + 9 < N) (hf : cells + 11 ≤ room_1.cells ∧ slots + 66 ≤ room_1.slots) {a mo : Mm} {o : Int64} (h : FU a mo) (kk : ∀ a' m' o', FU a' m' → Wx p l e room_1 s m args below meth c (cells + 11) (slots + 66) Q lawV D ad A 7 2287 (LL i) [] (mix a' m') o') : Wx p l e room_1 s m args below meth c cells slots Q lawV D ad A 7 288 (LL i) [] (mix a mo) o := by
  obtain ⟨hC, hN, hT, hR, hst, hX, hb, hN0⟩ := h0
  have hij := hC.2.2.2.2.2.2.2.2.1
  have hIA := h.2.2.2.2.2.2.2.1
  have hMV := FU_MV h
  have hIM := hMV.1
  have hIC := FU_IC h
  have hw26 := h.2.2.2.2.2.1
  have hw45 := h.2.2.2.2.2.2.1
  have hdat := FU_dat h
  refine wpl hC ⟨Nat.le_trans (by omega) hf.1, Nat.le_trans (by omega) hf.2⟩ tkW_2 [289] 3 ?_
  refine Wx.reads' hC hX hb hN0 rfl rfl i0 law00 [1, 2, 3, 4, 5] 289 _ (by decide +kernel) (by (repeat' first | exact fun _ h => absurd h List.not_mem_nil | refine List.forall_mem_cons.mpr ⟨?_, ?_⟩) <;> omega) (pc' := 319) (by decide +kernel) (S' := [xi (scr xs (i + 5)), xi (scr xs (i + 4)), xi (scr xs (i + 3)), xi (scr xs (i + 2)), xi (scr xs (i + 1)), xr 1 0]) rfl ?_
  have hrd : ∀ (k9 : Int) (a9 : Mm) (o9 : Int64) (c9 s9 : Nat), Wx p l e room_1 s m args below meth c c9 s9 Q lawV D ad A 7 355 (lset (LL i) 5 (xi k9)) [xi (scr xs (i + 5)), xi (scr xs (i + 4)), xi (scr xs (i + 3)), xi (scr xs (i + 2)), xi (scr xs (i + 1)), xr 40 0] (mix a9 mo) o9 → Wx p l e room_1 s m args below meth c c9 s9 Q lawV D ad A 7 325 (lset (LL i) 5 (xi k9)) [xr 40 0] (mix a9 mo) o9 := fun k9 a9 o9 c9 s9 h9 => by
    exact Wx.reads' hC hX hb hN0 rfl rfl i0 law00 [1, 2, 3, 4, 5] 325 _ (by decide +kernel) (by (repeat' first | exact fun _ h => absurd h List.not_mem_nil | refine List.forall_mem_cons.mpr ⟨?_, ?_⟩) <;> omega) (pc' := 355) (by decide +kernel) (S' := [xi (scr xs (i + 5)), xi (scr xs (i + 4)), xi (scr xs (i + 3)), xi (scr xs (i + 2)), xi (scr xs (i + 1)), xr 40 0]) rfl h9
  have w1 := wr_scr xs (i + 1)
  have w2 := wr_scr xs (i + 2)
  have w3 := wr_scr xs (i + 3)
  have w4 := wr_scr xs (i + 4)
  have w5 := wr_scr xs (i + 5)
  generalize scr xs (i + 1) = p1 at w1 hrd ⊢
  generalize scr xs (i + 2) = p2 at w2 hrd ⊢
  generalize scr xs (i + 3) = p3 at w3 hrd ⊢
  generalize scr xs (i + 4) = p4 at w4 hrd ⊢
  generalize scr xs (i + 5) = p5 at w5 hrd ⊢
  have hc := call_weather h p1 p2 p3 p4 p5
  have hM := W_weather a o p1 p2 p3 p4 p5 w1 w2 w3 w4 w5 
  refine Wx.lW (y := iL_weather) (avs := [_, _, _, _, _, _]) (rest := []) hC hN hT hR hst tkW_2 rfl rfl rfl kL_weather (by decide +kernel) hM rfl (Nat.zero_le _) (by repeat' first | exact fun _ h => absurd h List.not_mem_nil | exact cl10 | exact cl35 | exact trivial | refine List.forall_mem_cons.mpr ⟨?_, ?_⟩) ⟨Nat.le_trans (by omega) hf.1, Nat.le_trans (by omega) hf.2⟩ ?_
  rintro r a' o' ⟨rfl, rfl, rfl⟩
  refine wpl hC ⟨Nat.le_trans (by omega) hf.1, Nat.le_trans (by omega) hf.2⟩ tkW_2 [325] 4 ?_
  refine hrd _ _ _ _ _ ?_
  refine Wx.lV (V' := moV) (g := fun m => mix _ m) (y := iX11_weather) (avs := [_, _, _, _, _]) (rest := []) hC hN (loc_mo _) (Or.inr fun r m' o' hF => hF.2.2.symm) (wf_mo hij) mo40 tkW_2 rfl rfl kX11_weather (by decide +kernel) (M_mweather p1 p2 p3 p4 p5 _ _ w1 w2 w3 w4 w5 ) ⟨rfl, rfl⟩ rfl (Nat.zero_le _) (by repeat' first | exact fun _ h => absurd h List.not_mem_nil | exact trivial | refine List.forall_mem_cons.mpr ⟨?_, ?_⟩) ⟨Nat.le_trans (by omega) hf.1, Nat.le_trans (by omega) hf.2⟩ ?_
  rintro r m' o' ⟨rfl, rfl, rfl⟩
  refine wpl hC ⟨Nat.le_trans (by omega) hf.1, Nat.le_trans (by omega) hf.2⟩ tkW_2 [] 4 ?_
  refine Wx.lV (V' := moV) (g := fun m => mix _ m) (y := iX11_thrown) (avs := []) (rest := []) hC hN (loc_mo _) (Or.inr fun r m' o' hF => hF.2.2.symm) (wf_mo hij) mo40 tkW_2 rfl rfl kX11_thrown (by decide +kernel) (M_thrown _ _) ⟨rfl, rfl⟩ rfl (Nat.zero_le _) (fun _ h => absurd h List.not_mem_nil) ⟨Nat.le_trans (by omega) hf.1, Nat.le_trans (by omega) hf.2⟩ ?_
  rintro r m' o' ⟨rfl, rfl, rfl⟩
  refine wpl hC ⟨Nat.le_trans (by omega) hf.1, Nat.le_trans (by omega) hf.2⟩ tkW_2 [2287] 30 ?_
  exact ⟨fun _ => Wx.widen (k := cells + 11) (n := slots + 66) (by omega) (by omega) (Wx.pick [0, 1, 2, 3, 4] rfl (kk _ _ _ hc.1)), fun hne => absurd (congrArg wr (hc.2)) hne⟩
def tbW_3 : CT := [(372, .aload_n 1, 373, 0, 0, 0, 0, 0, 0, 0), (373, .aload_n 0, 374, 0, 0, 0, 0, 0, 0, 0), (374, .iload 4, 376, 0, 0, 0, 0, 0, 0, 0), (376, .iconst 1, 377, 0, 0, 0, 0, 0, 0, 0), (377, .iadd, 378, 0, 0, 0, 0, 0, 0, 0), (378, .iaload, 379, 0, 0, 0, 0, 0, 0, 0), (379, .aload_n 0, 380, 0, 0, 0, 0, 0, 0, 0), (380, .iload 4, 382, 0, 0, 0, 0, 0, 0, 0), (382, .iconst 2, 383, 0, 0, 0, 0, 0, 0, 0), (383, .iadd, 384, 0, 0, 0, 0, 0, 0, 0), (384, .iaload, 385, 0, 0, 0, 0, 0, 0, 0), (385, .aload_n 0, 386, 0, 0, 0, 0, 0, 0, 0), (386, .iload 4, 388, 0, 0, 0, 0, 0, 0, 0), (388, .iconst 3, 389, 0, 0, 0, 0, 0, 0, 0), (389, .iadd, 390, 0, 0, 0, 0, 0, 0, 0), (390, .iaload, 391, 0, 0, 0, 0, 0, 0, 0), (391, .aload_n 0, 392, 0, 0, 0, 0, 0, 0, 0), (392, .iload 4, 394, 0, 0, 0, 0, 0, 0, 0), (394, .iconst 4, 395, 0, 0, 0, 0, 0, 0, 0), (395, .iadd, 396, 0, 0, 0, 0, 0, 0, 0), (396, .iaload, 397, 0, 0, 0, 0, 0, 0, 0), (397, .invokestatic 128, 400, 0, 0, 0, 0, 148, 577, 0), (400, .istore 5, 402, 0, 0, 0, 0, 0, 0, 0), (402, .aload_n 2, 403, 0, 0, 0, 0, 0, 0, 0), (403, .aload_n 0, 404, 0, 0, 0, 0, 0, 0, 0), (404, .iload 4, 406, 0, 0, 0, 0, 0, 0, 0), (406, .iconst 1, 407, 0, 0, 0, 0, 0, 0, 0), (407, .iadd, 408, 0, 0, 0, 0, 0, 0, 0), (408, .iaload, 409, 0, 0, 0, 0, 0, 0, 0), (409, .aload_n 0, 410, 0, 0, 0, 0, 0, 0, 0), (410, .iload 4, 412, 0, 0, 0, 0, 0, 0, 0), (412, .iconst 2, 413, 0, 0, 0, 0, 0, 0, 0), (413, .iadd, 414, 0, 0, 0, 0, 0, 0, 0), (414, .iaload, 415, 0, 0, 0, 0, 0, 0, 0), (415, .aload_n 0, 416, 0, 0, 0, 0, 0, 0, 0), (416, .iload 4, 418, 0, 0, 0, 0, 0, 0, 0), (418, .iconst 3, 419, 0, 0, 0, 0, 0, 0, 0), (419, .iadd, 420, 0, 0, 0, 0, 0, 0, 0), (420, .iaload, 421, 0, 0, 0, 0, 0, 0, 0), (421, .aload_n 0, 422, 0, 0, 0, 0, 0, 0, 0), (422, .iload 4, 424, 0, 0, 0, 0, 0, 0, 0), (424, .iconst 4, 425, 0, 0, 0, 0, 0, 0, 0), (425, .iadd, 426, 0, 0, 0, 0, 0, 0, 0), (426, .iaload, 427, 0, 0, 0, 0, 0, 0, 0), (427, .invokevirtual 131, 430, 0, 0, 0, 0, 87, 1169, 0), (430, .aload_n 2, 431, 0, 0, 0, 0, 0, 0, 0), (431, .invokevirtual 116, 434, 0, 0, 0, 0, 71, 1129, 0), (434, .iload 5, 436, 0, 0, 0, 0, 0, 0, 0), (436, .if_icmp .eq 5, 439, 441, 441, 0, 0, 0, 0, 0), (439, .iconst 0, 440, 0, 0, 0, 0, 0, 0, 0), (440, .ireturn, 441, 0, 0, 0, 0, 0, 0, 0), (441, .goto 1846, 444, 2287, 2287, 0, 0, 0, 0, 0)]
theorem tkW_3 : tbW_3.all (cOK RL code) = true := by decide +kernel
set_option maxRecDepth 100000 in
set_option maxHeartbeats 400000 in
theorem law_3 (h0 : LC p l s m args meth c D ad A N xs) {i : Int} (i0 : 0 ≤ i) (i1 : i + 9 < N) (hf : cells + 11 ≤ room_1.cells ∧ slots + 66 ≤ room_1.slots) {a mo : Mm} {o : Int64} (h : FU a mo) (kk : ∀ a' m' o', FU a' m' → Wx p l e room_1 s m args below meth c (cells + 11) (slots + 66) Q lawV D ad A 7 2287 (LL i) [] (mix a' m') o') : Wx p l e room_1 s m args below meth c cells slots Q lawV D ad A 7 372 (LL i) [] (mix a mo) o := by
  obtain ⟨hC, hN, hT, hR, hst, hX, hb, hN0⟩ := h0
  have hij := hC.2.2.2.2.2.2.2.2.1
  have hIA := h.2.2.2.2.2.2.2.1
  have hMV := FU_MV h
  have hIM := hMV.1
  have hIC := FU_IC h
  have hw26 := h.2.2.2.2.2.1
  have hw45 := h.2.2.2.2.2.2.1
  have hdat := FU_dat h
  refine wpl hC ⟨Nat.le_trans (by omega) hf.1, Nat.le_trans (by omega) hf.2⟩ tkW_3 [373] 3 ?_
  refine Wx.reads' hC hX hb hN0 rfl rfl i0 law00 [1, 2, 3, 4] 373 _ (by decide +kernel) (by (repeat' first | exact fun _ h => absurd h List.not_mem_nil | refine List.forall_mem_cons.mpr ⟨?_, ?_⟩) <;> omega) (pc' := 397) (by decide +kernel) (S' := [xi (scr xs (i + 4)), xi (scr xs (i + 3)), xi (scr xs (i + 2)), xi (scr xs (i + 1)), xr 1 0]) rfl ?_
  have hrd : ∀ (k9 : Int) (a9 : Mm) (o9 : Int64) (c9 s9 : Nat), Wx p l e room_1 s m args below meth c c9 s9 Q lawV D ad A 7 427 (lset (LL i) 5 (xi k9)) [xi (scr xs (i + 4)), xi (scr xs (i + 3)), xi (scr xs (i + 2)), xi (scr xs (i + 1)), xr 40 0] (mix a9 mo) o9 → Wx p l e room_1 s m args below meth c c9 s9 Q lawV D ad A 7 403 (lset (LL i) 5 (xi k9)) [xr 40 0] (mix a9 mo) o9 := fun k9 a9 o9 c9 s9 h9 => by
    exact Wx.reads' hC hX hb hN0 rfl rfl i0 law00 [1, 2, 3, 4] 403 _ (by decide +kernel) (by (repeat' first | exact fun _ h => absurd h List.not_mem_nil | refine List.forall_mem_cons.mpr ⟨?_, ?_⟩) <;> omega) (pc' := 427) (by decide +kernel) (S' := [xi (scr xs (i + 4)), xi (scr xs (i + 3)), xi (scr xs (i + 2)), xi (scr xs (i + 1)), xr 40 0]) rfl h9
  have w1 := wr_scr xs (i + 1)
  have w2 := wr_scr xs (i + 2)
  have w3 := wr_scr xs (i + 3)
  have w4 := wr_scr xs (i + 4)
  generalize scr xs (i + 1) = p1 at w1 hrd ⊢
  generalize scr xs (i + 2) = p2 at w2 hrd ⊢
  generalize scr xs (i + 3) = p3 at w3 hrd ⊢
  generalize scr xs (i + 4) = p4 at w4 hrd ⊢
  have hc := call_fault h p1 p2 p3 p4
  have hM := W_fault a o p1 p2 p3 p4 w1 w2 w3 w4 
  refine Wx.lW (y := iL_fault) (avs := [_, _, _, _, _]) (rest := []) hC hN hT hR hst tkW_3 rfl rfl rfl kL_fault (by decide +kernel) hM rfl (Nat.zero_le _) (by repeat' first | exact fun _ h => absurd h List.not_mem_nil | exact cl10 | exact cl35 | exact trivial | refine List.forall_mem_cons.mpr ⟨?_, ?_⟩) ⟨Nat.le_trans (by omega) hf.1, Nat.le_trans (by omega) hf.2⟩ ?_
  rintro r a' o' ⟨rfl, rfl, rfl⟩
  refine wpl hC ⟨Nat.le_trans (by omega) hf.1, Nat.le_trans (by omega) hf.2⟩ tkW_3 [403] 4 ?_
  refine hrd _ _ _ _ _ ?_
  refine Wx.lV (V' := moV) (g := fun m => mix _ m) (y := iX11_fault) (avs := [_, _, _, _]) (rest := []) hC hN (loc_mo _) (Or.inr fun r m' o' hF => hF.2.2.symm) (wf_mo hij) mo40 tkW_3 rfl rfl kX11_fault (by decide +kernel) (M_mfault p1 p2 p3 p4 _ _ w1 w2 w3 w4 ) ⟨rfl, rfl⟩ rfl (Nat.zero_le _) (by repeat' first | exact fun _ h => absurd h List.not_mem_nil | exact trivial | refine List.forall_mem_cons.mpr ⟨?_, ?_⟩) ⟨Nat.le_trans (by omega) hf.1, Nat.le_trans (by omega) hf.2⟩ ?_
  rintro r m' o' ⟨rfl, rfl, rfl⟩
  refine wpl hC ⟨Nat.le_trans (by omega) hf.1, Nat.le_trans (by omega) hf.2⟩ tkW_3 [] 4 ?_
  refine Wx.lV (V' := moV) (g := fun m => mix _ m) (y := iX11_thrown) (avs := []) (rest := []) hC hN (loc_mo _) (Or.inr fun r m' o' hF => hF.2.2.symm) (wf_mo hij) mo40 tkW_3 rfl rfl kX11_thrown (by decide +kernel) (M_thrown _ _) ⟨rfl, rfl⟩ rfl (Nat.zero_le _) (fun _ h => absurd h List.not_mem_nil) ⟨Nat.le_trans (by omega) hf.1, Nat.le_trans (by omega) hf.2⟩ ?_
  rintro r m' o' ⟨rfl, rfl, rfl⟩
  refine wpl hC ⟨Nat.le_trans (by omega) hf.1, Nat.le_trans (by omega) hf.2⟩ tkW_3 [2287] 30 ?_
  exact ⟨fun _ => Wx.widen (k := cells + 11) (n := slots + 66) (by omega) (by omega) (Wx.pick [0, 1, 2, 3, 4] rfl (kk _ _ _ hc.1)), fun hne => absurd (congrArg wr (hc.2)) hne⟩
def tbW_4 : CT := [(444, .aload_n 1, 445, 0, 0, 0, 0, 0, 0, 0), (445, .aload_n 0, 446, 0, 0, 0, 0, 0, 0, 0), (446, .iload 4, 448, 0, 0, 0, 0, 0, 0, 0), (448, .iconst 1, 449, 0, 0, 0, 0, 0, 0, 0), (449, .iadd, 450, 0, 0, 0, 0, 0, 0, 0), (450, .iaload, 451, 0, 0, 0, 0, 0, 0, 0), (451, .aload_n 0, 452, 0, 0, 0, 0, 0, 0, 0), (452, .iload 4, 454, 0, 0, 0, 0, 0, 0, 0), (454, .iconst 2, 455, 0, 0, 0, 0, 0, 0, 0), (455, .iadd, 456, 0, 0, 0, 0, 0, 0, 0), (456, .iaload, 457, 0, 0, 0, 0, 0, 0, 0), (457, .aload_n 0, 458, 0, 0, 0, 0, 0, 0, 0), (458, .iload 4, 460, 0, 0, 0, 0, 0, 0, 0), (460, .iconst 3, 461, 0, 0, 0, 0, 0, 0, 0), (461, .iadd, 462, 0, 0, 0, 0, 0, 0, 0), (462, .iaload, 463, 0, 0, 0, 0, 0, 0, 0), (463, .aload_n 3, 464, 0, 0, 0, 0, 0, 0, 0), (464, .invokestatic 132, 467, 0, 0, 0, 0, 149, 584, 0), (467, .istore 5, 469, 0, 0, 0, 0, 0, 0, 0), (469, .aload_n 2, 470, 0, 0, 0, 0, 0, 0, 0), (470, .aload_n 0, 471, 0, 0, 0, 0, 0, 0, 0), (471, .iload 4, 473, 0, 0, 0, 0, 0, 0, 0), (473, .iconst 1, 474, 0, 0, 0, 0, 0, 0, 0), (474, .iadd, 475, 0, 0, 0, 0, 0, 0, 0), (475, .iaload, 476, 0, 0, 0, 0, 0, 0, 0), (476, .aload_n 0, 477, 0, 0, 0, 0, 0, 0, 0), (477, .iload 4, 479, 0, 0, 0, 0, 0, 0, 0), (479, .iconst 2, 480, 0, 0, 0, 0, 0, 0, 0), (480, .iadd, 481, 0, 0, 0, 0, 0, 0, 0), (481, .iaload, 482, 0, 0, 0, 0, 0, 0, 0), (482, .aload_n 0, 483, 0, 0, 0, 0, 0, 0, 0), (483, .iload 4, 485, 0, 0, 0, 0, 0, 0, 0), (485, .iconst 3, 486, 0, 0, 0, 0, 0, 0, 0), (486, .iadd, 487, 0, 0, 0, 0, 0, 0, 0), (487, .iaload, 488, 0, 0, 0, 0, 0, 0, 0), (488, .invokevirtual 135, 491, 0, 0, 0, 0, 89, 1173, 0), (491, .istore 6, 493, 0, 0, 0, 0, 0, 0, 0), (493, .aload_n 2, 494, 0, 0, 0, 0, 0, 0, 0), (494, .invokevirtual 116, 497, 0, 0, 0, 0, 71, 1129, 0), (497, .iload 5, 499, 0, 0, 0, 0, 0, 0, 0), (499, .if_icmp .eq 5, 502, 504, 504, 0, 0, 0, 0, 0), (502, .iconst 0, 503, 0, 0, 0, 0, 0, 0, 0), (503, .ireturn, 504, 0, 0, 0, 0, 0, 0, 0), (504, .iload 5, 506, 0, 0, 0, 0, 0, 0, 0), (506, .ifCond .ne 15, 509, 521, 521, 0, 0, 0, 0, 0), (509, .aload_n 3, 510, 0, 0, 0, 0, 0, 0, 0), (510, .iconst 0, 511, 0, 0, 0, 0, 0, 0, 0), (511, .laload, 512, 0, 0, 0, 0, 0, 0, 0), (512, .iload 6, 514, 0, 0, 0, 0, 0, 0, 0), (514, .i2l, 515, 0, 0, 0, 0, 0, 0, 0), (515, .lcmp, 516, 0, 0, 0, 0, 0, 0, 0), (516, .ifCond .eq 5, 519, 521, 521, 0, 0, 0, 0, 0), (519, .iconst 0, 520, 0, 0, 0, 0, 0, 0, 0), (520, .ireturn, 521, 0, 0, 0, 0, 0, 0, 0), (521, .goto 1766, 524, 2287, 2287, 0, 0, 0, 0, 0)]
theorem tkW_4 : tbW_4.all (cOK RL code) = true := by decide +kernel
set_option maxRecDepth 100000 in
set_option maxHeartbeats 400000 in
theorem law_4 (h0 : LC p l s m args meth c D ad A N xs) {i : Int} (i0 : 0 ≤ i) (i1 : i + 9 < N) (hf : cells + 11 ≤ room_1.cells ∧ slots + 66 ≤ room_1.slots) {a mo : Mm} {o : Int64} (h : FU a mo) (kk : ∀ a' m' o', FU a' m' → Wx p l e room_1 s m args below meth c (cells + 11) (slots + 66) Q lawV D ad A 7 2287 (LL i) [] (mix a' m') o') : Wx p l e room_1 s m args below meth c cells slots Q lawV D ad A 7 444 (LL i) [] (mix a mo) o := by
  obtain ⟨hC, hN, hT, hR, hst, hX, hb, hN0⟩ := h0
  have hij := hC.2.2.2.2.2.2.2.2.1
  have hIA := h.2.2.2.2.2.2.2.1
  have hMV := FU_MV h
  have hIM := hMV.1
  have hIC := FU_IC h
  have hw26 := h.2.2.2.2.2.1
  have hw45 := h.2.2.2.2.2.2.1
  have hdat := FU_dat h
  refine wpl hC ⟨Nat.le_trans (by omega) hf.1, Nat.le_trans (by omega) hf.2⟩ tkW_4 [445] 3 ?_
  refine Wx.reads' hC hX hb hN0 rfl rfl i0 law00 [1, 2, 3] 445 _ (by decide +kernel) (by (repeat' first | exact fun _ h => absurd h List.not_mem_nil | refine List.forall_mem_cons.mpr ⟨?_, ?_⟩) <;> omega) (pc' := 463) (by decide +kernel) (S' := [xi (scr xs (i + 3)), xi (scr xs (i + 2)), xi (scr xs (i + 1)), xr 1 0]) rfl ?_
  have hrd : ∀ (k9 : Int) (a9 : Mm) (o9 : Int64) (c9 s9 : Nat), Wx p l e room_1 s m args below meth c c9 s9 Q lawV D ad A 7 488 (lset (LL i) 5 (xi k9)) [xi (scr xs (i + 3)), xi (scr xs (i + 2)), xi (scr xs (i + 1)), xr 40 0] (mix a9 mo) o9 → Wx p l e room_1 s m args below meth c c9 s9 Q lawV D ad A 7 470 (lset (LL i) 5 (xi k9)) [xr 40 0] (mix a9 mo) o9 := fun k9 a9 o9 c9 s9 h9 => by
    exact Wx.reads' hC hX hb hN0 rfl rfl i0 law00 [1, 2, 3] 470 _ (by decide +kernel) (by (repeat' first | exact fun _ h => absurd h List.not_mem_nil | refine List.forall_mem_cons.mpr ⟨?_, ?_⟩) <;> omega) (pc' := 488) (by decide +kernel) (S' := [xi (scr xs (i + 3)), xi (scr xs (i + 2)), xi (scr xs (i + 1)), xr 40 0]) rfl h9
  have w1 := wr_scr xs (i + 1)
  have w2 := wr_scr xs (i + 2)
  have w3 := wr_scr xs (i + 3)
  generalize scr xs (i + 1) = p1 at w1 hrd ⊢
  generalize scr xs (i + 2) = p2 at w2 hrd ⊢
  generalize scr xs (i + 3) = p3 at w3 hrd ⊢
  refine wpl hC ⟨Nat.le_trans (by omega) hf.1, Nat.le_trans (by omega) hf.2⟩ tkW_4 [] 3 ?_
  have hc := call_mount h p1 p2 p3
  have hM := W_mount a o p1 p2 p3 w1 w2 w3 
  rw [hc.1] at hM
  refine Wx.lW (y := iL_mount) (avs := [_, _, _, _, _]) (rest := []) hC hN hT hR hst tkW_4 rfl rfl rfl kL_mount (by decide +kernel) hM rfl (Nat.zero_le _) (by repeat' first | exact fun _ h => absurd h List.not_mem_nil | exact cl10 | exact cl35 | exact trivial | refine List.forall_mem_cons.mpr ⟨?_, ?_⟩) ⟨Nat.le_trans (by omega) hf.1, Nat.le_trans (by omega) hf.2⟩ ?_
  rintro r a' o' ⟨rfl, rfl, rfl⟩
  refine wpl hC ⟨Nat.le_trans (by omega) hf.1, Nat.le_trans (by omega) hf.2⟩ tkW_4 [470] 4 ?_
  refine hrd _ _ _ _ _ ?_
  refine Wx.lV (V' := moV) (g := fun m => mix _ m) (y := iX11_mount) (avs := [_, _, _]) (rest := []) hC hN (loc_mo _) (Or.inr fun r m' o' hF => hF.2.2.symm) (wf_mo hij) mo40 tkW_4 rfl rfl kX11_mount (by decide +kernel) (M_mmount p1 p2 p3 _ _ w1 w2 w3 ) ⟨rfl, rfl⟩ rfl (Nat.zero_le _) (by repeat' first | exact fun _ h => absurd h List.not_mem_nil | exact trivial | refine List.forall_mem_cons.mpr ⟨?_, ?_⟩) ⟨Nat.le_trans (by omega) hf.1, Nat.le_trans (by omega) hf.2⟩ ?_
  rintro r m' o' ⟨rfl, rfl, rfl⟩
  refine wpl hC ⟨Nat.le_trans (by omega) hf.1, Nat.le_trans (by omega) hf.2⟩ tkW_4 [] 4 ?_
  refine Wx.lV (V' := moV) (g := fun m => mix _ m) (y := iX11_thrown) (avs := []) (rest := []) hC hN (loc_mo _) (Or.inr fun r m' o' hF => hF.2.2.symm) (wf_mo hij) mo40 tkW_4 rfl rfl kX11_thrown (by decide +kernel) (M_thrown _ _) ⟨rfl, rfl⟩ rfl (Nat.zero_le _) (fun _ h => absurd h List.not_mem_nil) ⟨Nat.le_trans (by omega) hf.1, Nat.le_trans (by omega) hf.2⟩ ?_
  rintro r m' o' ⟨rfl, rfl, rfl⟩
  refine wpl hC ⟨Nat.le_trans (by omega) hf.1, Nat.le_trans (by omega) hf.2⟩ tkW_4 [2287] 30 ?_
  refine ⟨fun _ => ⟨fun _ => Wx.widen (k := cells + 11) (n := slots + 66) (by omega) (by omega) (Wx.pick [0, 1, 2, 3, 4] rfl (kk _ _ _ hc.2.1.1)), fun hk => ?_⟩, fun hne => absurd (congrArg wr (hc.2.1.2)) hne⟩
  have hcn := cdX_0 (by decide) hk
  exact ⟨rfl, fun _ => Wx.widen (k := cells + 11) (n := slots + 66) (by omega) (by omega) (Wx.pick [0, 1, 2, 3, 4] rfl (kk _ _ _ hc.2.1.1)), fun hne => absurd (cmp0 ((pif_t hcn).trans (congrArg Int32.toInt64 (congrArg I (hc.2.2 hcn))))) hne⟩
end CTX
