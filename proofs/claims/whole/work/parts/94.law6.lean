/-! ===== the law, case by case, 6 ===== -/
section CTX
variable {p : Program} {l : Launch} {e : Env} {s : State} {m : MethodId} {args : Array Value} {below : List Frame} {meth : Method} {c : Code} {cells slots : Nat} {Q : State → Prop} {D : DD} {ad : Nat → Int → Nat} {A : Nat → Prop} {N : Nat} {xs : Nat → Int32}
def tbW_25 : CT := [(2008, .aload_n 1, 2009, 0, 0, 0, 0, 0, 0, 0), (2009, .aload_n 0, 2010, 0, 0, 0, 0, 0, 0, 0), (2010, .iload 4, 2012, 0, 0, 0, 0, 0, 0, 0), (2012, .iconst 1, 2013, 0, 0, 0, 0, 0, 0, 0), (2013, .iadd, 2014, 0, 0, 0, 0, 0, 0, 0), (2014, .iaload, 2015, 0, 0, 0, 0, 0, 0, 0), (2015, .aload_n 0, 2016, 0, 0, 0, 0, 0, 0, 0), (2016, .iload 4, 2018, 0, 0, 0, 0, 0, 0, 0), (2018, .iconst 2, 2019, 0, 0, 0, 0, 0, 0, 0), (2019, .iadd, 2020, 0, 0, 0, 0, 0, 0, 0), (2020, .iaload, 2021, 0, 0, 0, 0, 0, 0, 0), (2021, .aload_n 3, 2022, 0, 0, 0, 0, 0, 0, 0), (2022, .invokestatic 204, 2025, 0, 0, 0, 0, 167, 897, 0), (2025, .istore 5, 2027, 0, 0, 0, 0, 0, 0, 0), (2027, .aload_n 2, 2028, 0, 0, 0, 0, 0, 0, 0), (2028, .aload_n 0, 2029, 0, 0, 0, 0, 0, 0, 0), (2029, .iload 4, 2031, 0, 0, 0, 0, 0, 0, 0), (2031, .iconst 1, 2032, 0, 0, 0, 0, 0, 0, 0), (2032, .iadd, 2033, 0, 0, 0, 0, 0, 0, 0), (2033, .iaload, 2034, 0, 0, 0, 0, 0, 0, 0), (2034, .aload_n 0, 2035, 0, 0, 0, 0, 0, 0, 0), (2035, .iload 4, 2037, 0, 0, 0, 0, 0, 0, 0), (2037, .iconst 2, 2038, 0, 0, 0, 0, 0, 0, 0), (2038, .iadd, 2039, 0, 0, 0, 0, 0, 0, 0), (2039, .iaload, 2040, 0, 0, 0, 0, 0, 0, 0), (2040, .invokevirtual 206, 2043, 0, 0, 0, 0, 134, 1377, 0), (2043, .istore 6, 2045, 0, 0, 0, 0, 0, 0, 0), (2045, .aload_n 2, 2046, 0, 0, 0, 0, 0, 0, 0), (2046, .invokevirtual 116, 2049, 0, 0, 0, 0, 71, 1129, 0), (2049, .iload 5, 2051, 0, 0, 0, 0, 0, 0, 0), (2051, .if_icmp .eq 5, 2054, 2056, 2056, 0, 0, 0, 0, 0), (2054, .iconst 0, 2055, 0, 0, 0, 0, 0, 0, 0), (2055, .ireturn, 2056, 0, 0, 0, 0, 0, 0, 0), (2056, .iload 5, 2058, 0, 0, 0, 0, 0, 0, 0), (2058, .ifCond .ne 15, 2061, 2073, 2073, 0, 0, 0, 0, 0), (2061, .aload_n 3, 2062, 0, 0, 0, 0, 0, 0, 0), (2062, .iconst 0, 2063, 0, 0, 0, 0, 0, 0, 0), (2063, .laload, 2064, 0, 0, 0, 0, 0, 0, 0), (2064, .iload 6, 2066, 0, 0, 0, 0, 0, 0, 0), (2066, .i2l, 2067, 0, 0, 0, 0, 0, 0, 0), (2067, .lcmp, 2068, 0, 0, 0, 0, 0, 0, 0), (2068, .ifCond .eq 5, 2071, 2073, 2073, 0, 0, 0, 0, 0), (2071, .iconst 0, 2072, 0, 0, 0, 0, 0, 0, 0), (2072, .ireturn, 2073, 0, 0, 0, 0, 0, 0, 0), (2073, .goto 214, 2076, 2287, 2287, 0, 0, 0, 0, 0)]
theorem tkW_25 : tbW_25.all (cOK RL code) = true := by decide +kernel
set_option maxRecDepth 100000 in
set_option maxHeartbeats 400000 in
theorem law_25 (h0 : LC p l s m args meth c D ad A N xs) {i : Int} (i0 : 0 ≤ i) (i1 : i + 9 < N) (hf : cells + 11 ≤ room_1.cells ∧ slots + 66 ≤ room_1.slots) {a mo : Mm} {o : Int64} (h : FU a mo) (kk : ∀ a' m' o', FU a' m' → Wx p l e room_1 s m args below meth c (cells + 11) (slots + 66) Q lawV D ad A 7 2287 (LL i) [] (mix a' m') o') : Wx p l e room_1 s m args below meth c cells slots Q lawV D ad A 7 2008 (LL i) [] (mix a mo) o := by
  obtain ⟨hC, hN, hT, hR, hst, hX, hb, hN0⟩ := h0
  have hij := hC.2.2.2.2.2.2.2.2.1
  have hIA := h.2.2.2.2.2.2.2.1
  have hMV := FU_MV h
  have hIM := hMV.1
  have hIC := FU_IC h
  have hw26 := h.2.2.2.2.2.1
  have hw45 := h.2.2.2.2.2.2.1
  have hdat := FU_dat h
  refine wpl hC ⟨Nat.le_trans (by omega) hf.1, Nat.le_trans (by omega) hf.2⟩ tkW_25 [2009] 3 ?_
  refine Wx.reads' hC hX hb hN0 rfl rfl i0 law00 [1, 2] 2009 _ (by decide +kernel) (by (repeat' first | exact fun _ h => absurd h List.not_mem_nil | refine List.forall_mem_cons.mpr ⟨?_, ?_⟩) <;> omega) (pc' := 2021) (by decide +kernel) (S' := [xi (scr xs (i + 2)), xi (scr xs (i + 1)), xr 1 0]) rfl ?_
  have hrd : ∀ (k9 : Int) (a9 : Mm) (o9 : Int64) (c9 s9 : Nat), Wx p l e room_1 s m args below meth c c9 s9 Q lawV D ad A 7 2040 (lset (LL i) 5 (xi k9)) [xi (scr xs (i + 2)), xi (scr xs (i + 1)), xr 40 0] (mix a9 mo) o9 → Wx p l e room_1 s m args below meth c c9 s9 Q lawV D ad A 7 2028 (lset (LL i) 5 (xi k9)) [xr 40 0] (mix a9 mo) o9 := fun k9 a9 o9 c9 s9 h9 => by
    exact Wx.reads' hC hX hb hN0 rfl rfl i0 law00 [1, 2] 2028 _ (by decide +kernel) (by (repeat' first | exact fun _ h => absurd h List.not_mem_nil | refine List.forall_mem_cons.mpr ⟨?_, ?_⟩) <;> omega) (pc' := 2040) (by decide +kernel) (S' := [xi (scr xs (i + 2)), xi (scr xs (i + 1)), xr 40 0]) rfl h9
  have w1 := wr_scr xs (i + 1)
  have w2 := wr_scr xs (i + 2)
  generalize scr xs (i + 1) = p1 at w1 hrd ⊢
  generalize scr xs (i + 2) = p2 at w2 hrd ⊢
  refine wpl hC ⟨Nat.le_trans (by omega) hf.1, Nat.le_trans (by omega) hf.2⟩ tkW_25 [] 3 ?_
  have hc := call_datum h p1 p2
  have hM := W_datum a o p1 p2 w1 w2 (by rw [hdat.1]; exact hdat.2.1.2)
  rw [hc.1] at hM
  refine Wx.lW (y := iL_datum) (avs := [_, _, _, _]) (rest := []) hC hN hT hR hst tkW_25 rfl rfl rfl kL_datum (by decide +kernel) hM rfl (Nat.zero_le _) (by repeat' first | exact fun _ h => absurd h List.not_mem_nil | exact cl10 | exact cl35 | exact trivial | refine List.forall_mem_cons.mpr ⟨?_, ?_⟩) ⟨Nat.le_trans (by omega) hf.1, Nat.le_trans (by omega) hf.2⟩ ?_
  rintro r a' o' ⟨rfl, rfl, rfl⟩
  refine wpl hC ⟨Nat.le_trans (by omega) hf.1, Nat.le_trans (by omega) hf.2⟩ tkW_25 [2028] 4 ?_
  refine hrd _ _ _ _ _ ?_
  refine Wx.lV (V' := moV) (g := fun m => mix _ m) (y := iX11_datum) (avs := [_, _]) (rest := []) hC hN (loc_mo _) (Or.inr fun r m' o' hF => hF.2.2.symm) (wf_mo hij) mo40 tkW_25 rfl rfl kX11_datum (by decide +kernel) (M_mdatum p1 p2 _ _ w1 w2 hdat.2.1.1 hdat.2.1.2) ⟨rfl, rfl⟩ rfl (Nat.zero_le _) (by repeat' first | exact fun _ h => absurd h List.not_mem_nil | exact trivial | refine List.forall_mem_cons.mpr ⟨?_, ?_⟩) ⟨Nat.le_trans (by omega) hf.1, Nat.le_trans (by omega) hf.2⟩ ?_
  rintro r m' o' ⟨rfl, rfl, rfl⟩
  refine wpl hC ⟨Nat.le_trans (by omega) hf.1, Nat.le_trans (by omega) hf.2⟩ tkW_25 [] 4 ?_
  refine Wx.lV (V' := moV) (g := fun m => mix _ m) (y := iX11_thrown) (avs := []) (rest := []) hC hN (loc_mo _) (Or.inr fun r m' o' hF => hF.2.2.symm) (wf_mo hij) mo40 tkW_25 rfl rfl kX11_thrown (by decide +kernel) (M_thrown _ _) ⟨rfl, rfl⟩ rfl (Nat.zero_le _) (fun _ h => absurd h List.not_mem_nil) ⟨Nat.le_trans (by omega) hf.1, Nat.le_trans (by omega) hf.2⟩ ?_
  rintro r m' o' ⟨rfl, rfl, rfl⟩
  have hfu := fun (c9 : Option String) => md_read (Es := E0) (c := c9) h (by decide)
  refine wpl hC ⟨Nat.le_trans (by omega) hf.1, Nat.le_trans (by omega) hf.2⟩ tkW_25 [2287] 30 ?_
  refine ⟨fun _ => ⟨fun _ => Wx.widen (k := cells + 11) (n := slots + 66) (by omega) (by omega) (Wx.pick [0, 1, 2, 3, 4] rfl (kk _ _ _ (hfu _).1)), fun hk => ?_⟩, fun hne => absurd (congrArg wr ((hfu _).2)) hne⟩
  have hcn := cdX_0 (by decide) hk
  exact ⟨rfl, fun _ => Wx.widen (k := cells + 11) (n := slots + 66) (by omega) (by omega) (Wx.pick [0, 1, 2, 3, 4] rfl (kk _ _ _ (hfu _).1)), fun hne => absurd (cmp0 ((pif_t hcn).trans (congrArg Int32.toInt64 (congrArg I (hc.2 hcn))))) hne⟩
def tbW_26 : CT := [(2076, .aload_n 1, 2077, 0, 0, 0, 0, 0, 0, 0), (2077, .aload_n 0, 2078, 0, 0, 0, 0, 0, 0, 0), (2078, .iload 4, 2080, 0, 0, 0, 0, 0, 0, 0), (2080, .iconst 1, 2081, 0, 0, 0, 0, 0, 0, 0), (2081, .iadd, 2082, 0, 0, 0, 0, 0, 0, 0), (2082, .iaload, 2083, 0, 0, 0, 0, 0, 0, 0), (2083, .aload_n 0, 2084, 0, 0, 0, 0, 0, 0, 0), (2084, .iload 4, 2086, 0, 0, 0, 0, 0, 0, 0), (2086, .iconst 2, 2087, 0, 0, 0, 0, 0, 0, 0), (2087, .iadd, 2088, 0, 0, 0, 0, 0, 0, 0), (2088, .iaload, 2089, 0, 0, 0, 0, 0, 0, 0), (2089, .aload_n 0, 2090, 0, 0, 0, 0, 0, 0, 0), (2090, .iload 4, 2092, 0, 0, 0, 0, 0, 0, 0), (2092, .iconst 3, 2093, 0, 0, 0, 0, 0, 0, 0), (2093, .iadd, 2094, 0, 0, 0, 0, 0, 0, 0), (2094, .iaload, 2095, 0, 0, 0, 0, 0, 0, 0), (2095, .aload_n 3, 2096, 0, 0, 0, 0, 0, 0, 0), (2096, .invokestatic 207, 2099, 0, 0, 0, 0, 168, 904, 0), (2099, .istore 5, 2101, 0, 0, 0, 0, 0, 0, 0), (2101, .aload_n 2, 2102, 0, 0, 0, 0, 0, 0, 0), (2102, .aload_n 0, 2103, 0, 0, 0, 0, 0, 0, 0), (2103, .iload 4, 2105, 0, 0, 0, 0, 0, 0, 0), (2105, .iconst 1, 2106, 0, 0, 0, 0, 0, 0, 0), (2106, .iadd, 2107, 0, 0, 0, 0, 0, 0, 0), (2107, .iaload, 2108, 0, 0, 0, 0, 0, 0, 0), (2108, .aload_n 0, 2109, 0, 0, 0, 0, 0, 0, 0), (2109, .iload 4, 2111, 0, 0, 0, 0, 0, 0, 0), (2111, .iconst 2, 2112, 0, 0, 0, 0, 0, 0, 0), (2112, .iadd, 2113, 0, 0, 0, 0, 0, 0, 0), (2113, .iaload, 2114, 0, 0, 0, 0, 0, 0, 0), (2114, .aload_n 0, 2115, 0, 0, 0, 0, 0, 0, 0), (2115, .iload 4, 2117, 0, 0, 0, 0, 0, 0, 0), (2117, .iconst 3, 2118, 0, 0, 0, 0, 0, 0, 0), (2118, .iadd, 2119, 0, 0, 0, 0, 0, 0, 0), (2119, .iaload, 2120, 0, 0, 0, 0, 0, 0, 0), (2120, .invokevirtual 209, 2123, 0, 0, 0, 0, 135, 1385, 0), (2123, .istore 6, 2125, 0, 0, 0, 0, 0, 0, 0), (2125, .aload_n 2, 2126, 0, 0, 0, 0, 0, 0, 0), (2126, .invokevirtual 116, 2129, 0, 0, 0, 0, 71, 1129, 0), (2129, .iload 5, 2131, 0, 0, 0, 0, 0, 0, 0), (2131, .if_icmp .eq 5, 2134, 2136, 2136, 0, 0, 0, 0, 0), (2134, .iconst 0, 2135, 0, 0, 0, 0, 0, 0, 0), (2135, .ireturn, 2136, 0, 0, 0, 0, 0, 0, 0), (2136, .iload 5, 2138, 0, 0, 0, 0, 0, 0, 0), (2138, .ifCond .ne 22, 2141, 2160, 2160, 0, 0, 0, 0, 0), (2141, .aload_n 3, 2142, 0, 0, 0, 0, 0, 0, 0), (2142, .iconst 0, 2143, 0, 0, 0, 0, 0, 0, 0), (2143, .laload, 2144, 0, 0, 0, 0, 0, 0, 0), (2144, .iload 6, 2146, 0, 0, 0, 0, 0, 0, 0), (2146, .ifCond .eq 7, 2149, 2153, 2153, 0, 0, 0, 0, 0), (2149, .lconst 1, 2150, 0, 0, 0, 0, 0, 0, 0), (2150, .goto 4, 2153, 2154, 2154, 0, 0, 0, 0, 0), (2153, .lconst 0, 2154, 0, 0, 0, 0, 0, 0, 0), (2154, .lcmp, 2155, 0, 0, 0, 0, 0, 0, 0), (2155, .ifCond .eq 5, 2158, 2160, 2160, 0, 0, 0, 0, 0), (2158, .iconst 0, 2159, 0, 0, 0, 0, 0, 0, 0), (2159, .ireturn, 2160, 0, 0, 0, 0, 0, 0, 0), (2160, .goto 127, 2163, 2287, 2287, 0, 0, 0, 0, 0)]
theorem tkW_26 : tbW_26.all (cOK RL code) = true := by decide +kernel
set_option maxRecDepth 100000 in
set_option maxHeartbeats 400000 in
theorem law_26 (h0 : LC p l s m args meth c D ad A N xs) {i : Int} (i0 : 0 ≤ i) (i1 : i + 9 < N) (hf : cells + 11 ≤ room_1.cells ∧ slots + 66 ≤ room_1.slots) {a mo : Mm} {o : Int64} (h : FU a mo) (kk : ∀ a' m' o', FU a' m' → Wx p l e room_1 s m args below meth c (cells + 11) (slots + 66) Q lawV D ad A 7 2287 (LL i) [] (mix a' m') o') : Wx p l e room_1 s m args below meth c cells slots Q lawV D ad A 7 2076 (LL i) [] (mix a mo) o := by
  obtain ⟨hC, hN, hT, hR, hst, hX, hb, hN0⟩ := h0
  have hij := hC.2.2.2.2.2.2.2.2.1
  have hIA := h.2.2.2.2.2.2.2.1
  have hMV := FU_MV h
  have hIM := hMV.1
  have hIC := FU_IC h
  have hw26 := h.2.2.2.2.2.1
  have hw45 := h.2.2.2.2.2.2.1
  have hdat := FU_dat h
  refine wpl hC ⟨Nat.le_trans (by omega) hf.1, Nat.le_trans (by omega) hf.2⟩ tkW_26 [2077] 3 ?_
  refine Wx.reads' hC hX hb hN0 rfl rfl i0 law00 [1, 2, 3] 2077 _ (by decide +kernel) (by (repeat' first | exact fun _ h => absurd h List.not_mem_nil | refine List.forall_mem_cons.mpr ⟨?_, ?_⟩) <;> omega) (pc' := 2095) (by decide +kernel) (S' := [xi (scr xs (i + 3)), xi (scr xs (i + 2)), xi (scr xs (i + 1)), xr 1 0]) rfl ?_
  have hrd : ∀ (k9 : Int) (a9 : Mm) (o9 : Int64) (c9 s9 : Nat), Wx p l e room_1 s m args below meth c c9 s9 Q lawV D ad A 7 2120 (lset (LL i) 5 (xi k9)) [xi (scr xs (i + 3)), xi (scr xs (i + 2)), xi (scr xs (i + 1)), xr 40 0] (mix a9 mo) o9 → Wx p l e room_1 s m args below meth c c9 s9 Q lawV D ad A 7 2102 (lset (LL i) 5 (xi k9)) [xr 40 0] (mix a9 mo) o9 := fun k9 a9 o9 c9 s9 h9 => by
    exact Wx.reads' hC hX hb hN0 rfl rfl i0 law00 [1, 2, 3] 2102 _ (by decide +kernel) (by (repeat' first | exact fun _ h => absurd h List.not_mem_nil | refine List.forall_mem_cons.mpr ⟨?_, ?_⟩) <;> omega) (pc' := 2120) (by decide +kernel) (S' := [xi (scr xs (i + 3)), xi (scr xs (i + 2)), xi (scr xs (i + 1)), xr 40 0]) rfl h9
  have w1 := wr_scr xs (i + 1)
  have w2 := wr_scr xs (i + 2)
  have w3 := wr_scr xs (i + 3)
  generalize scr xs (i + 1) = p1 at w1 hrd ⊢
  generalize scr xs (i + 2) = p2 at w2 hrd ⊢
  generalize scr xs (i + 3) = p3 at w3 hrd ⊢
  refine wpl hC ⟨Nat.le_trans (by omega) hf.1, Nat.le_trans (by omega) hf.2⟩ tkW_26 [] 3 ?_
  have hc := call_reads h p1 p2 p3
  have hM := W_reads a o p1 p2 p3 w1 w2 w3 hIA (by rw [hdat.1]; exact hdat.2.1.2) (dat_hP h)
  rw [hc.1] at hM
  refine Wx.lW (y := iL_reads) (avs := [_, _, _, _, _]) (rest := []) hC hN hT hR hst tkW_26 rfl rfl rfl kL_reads (by decide +kernel) hM rfl (Nat.zero_le _) (by repeat' first | exact fun _ h => absurd h List.not_mem_nil | exact cl10 | exact cl35 | exact trivial | refine List.forall_mem_cons.mpr ⟨?_, ?_⟩) ⟨Nat.le_trans (by omega) hf.1, Nat.le_trans (by omega) hf.2⟩ ?_
  rintro r a' o' ⟨rfl, rfl, rfl⟩
  refine wpl hC ⟨Nat.le_trans (by omega) hf.1, Nat.le_trans (by omega) hf.2⟩ tkW_26 [2102] 4 ?_
  refine hrd _ _ _ _ _ ?_
  refine Wx.lV (V' := moV) (g := fun m => mix _ m) (y := iX11_reads) (avs := [_, _, _]) (rest := []) hC hN (loc_mo _) (Or.inr fun r m' o' hF => hF.2.2.symm) (wf_mo hij) mo40 tkW_26 rfl rfl kX11_reads (by decide +kernel) (M_mreads p1 p2 p3 _ _ w1 w2 w3 hIM hdat.2.1.1 hdat.2.1.2 (dat_hd h)) ⟨rfl, rfl⟩ rfl (Nat.zero_le _) (by repeat' first | exact fun _ h => absurd h List.not_mem_nil | exact trivial | refine List.forall_mem_cons.mpr ⟨?_, ?_⟩) ⟨Nat.le_trans (by omega) hf.1, Nat.le_trans (by omega) hf.2⟩ ?_
  rintro r m' o' ⟨rfl, rfl, rfl⟩
  refine wpl hC ⟨Nat.le_trans (by omega) hf.1, Nat.le_trans (by omega) hf.2⟩ tkW_26 [] 4 ?_
  refine Wx.lV (V' := moV) (g := fun m => mix _ m) (y := iX11_thrown) (avs := []) (rest := []) hC hN (loc_mo _) (Or.inr fun r m' o' hF => hF.2.2.symm) (wf_mo hij) mo40 tkW_26 rfl rfl kX11_thrown (by decide +kernel) (M_thrown _ _) ⟨rfl, rfl⟩ rfl (Nat.zero_le _) (fun _ h => absurd h List.not_mem_nil) ⟨Nat.le_trans (by omega) hf.1, Nat.le_trans (by omega) hf.2⟩ ?_
  rintro r m' o' ⟨rfl, rfl, rfl⟩
  have hfu := fun (c9 : Option String) => md_read (Es := E0) (c := c9) h (by decide)
  refine wpl hC ⟨Nat.le_trans (by omega) hf.1, Nat.le_trans (by omega) hf.2⟩ tkW_26 [2287] 30 ?_
  refine ⟨fun _ => ⟨fun _ => Wx.widen (k := cells + 11) (n := slots + 66) (by omega) (by omega) (Wx.pick [0, 1, 2, 3, 4] rfl (kk _ _ _ (hfu _).1)), fun hk => ?_⟩, fun hne => absurd (congrArg wr ((hfu _).2)) hne⟩
  have hcn := cdX_0 (by decide) hk
  have h01 := fun (P : Prop) => bzw P
  exact ⟨rfl, fun hb0 => ⟨fun _ => Wx.widen (k := cells + 11) (n := slots + 66) (by omega) (by omega) (Wx.pick [0, 1, 2, 3, 4] rfl (kk _ _ _ (hfu _).1)), fun hne => absurd (cmp0 ((pif_t hcn).trans (i64_0 ((congrArg wr (hc.2 hcn)).trans hb0)).symm)) hne⟩, fun hb0 => ⟨fun _ => Wx.widen (k := cells + 11) (n := slots + 66) (by omega) (by omega) (Wx.pick [0, 1, 2, 3, 4] rfl (kk _ _ _ (hfu _).1)), fun hne => absurd (cmp0 ((pif_t hcn).trans (i64_1 ((h01 _).resolve_left fun q => hb0 ((congrArg wr (hc.2 hcn)).symm.trans q))).symm)) hne⟩⟩
def tbW_27 : CT := [(2163, .aload_n 1, 2164, 0, 0, 0, 0, 0, 0, 0), (2164, .aload_n 0, 2165, 0, 0, 0, 0, 0, 0, 0), (2165, .iload 4, 2167, 0, 0, 0, 0, 0, 0, 0), (2167, .iconst 1, 2168, 0, 0, 0, 0, 0, 0, 0), (2168, .iadd, 2169, 0, 0, 0, 0, 0, 0, 0), (2169, .iaload, 2170, 0, 0, 0, 0, 0, 0, 0), (2170, .aload_n 3, 2171, 0, 0, 0, 0, 0, 0, 0), (2171, .invokestatic 210, 2174, 0, 0, 0, 0, 169, 911, 0), (2174, .istore 5, 2176, 0, 0, 0, 0, 0, 0, 0), (2176, .aload_n 2, 2177, 0, 0, 0, 0, 0, 0, 0), (2177, .aload_n 0, 2178, 0, 0, 0, 0, 0, 0, 0), (2178, .iload 4, 2180, 0, 0, 0, 0, 0, 0, 0), (2180, .iconst 1, 2181, 0, 0, 0, 0, 0, 0, 0), (2181, .iadd, 2182, 0, 0, 0, 0, 0, 0, 0), (2182, .iaload, 2183, 0, 0, 0, 0, 0, 0, 0), (2183, .invokevirtual 212, 2186, 0, 0, 0, 0, 138, 1389, 0), (2186, .istore 6, 2188, 0, 0, 0, 0, 0, 0, 0), (2188, .aload_n 2, 2189, 0, 0, 0, 0, 0, 0, 0), (2189, .invokevirtual 116, 2192, 0, 0, 0, 0, 71, 1129, 0), (2192, .iload 5, 2194, 0, 0, 0, 0, 0, 0, 0), (2194, .if_icmp .eq 5, 2197, 2199, 2199, 0, 0, 0, 0, 0), (2197, .iconst 0, 2198, 0, 0, 0, 0, 0, 0, 0), (2198, .ireturn, 2199, 0, 0, 0, 0, 0, 0, 0), (2199, .iload 5, 2201, 0, 0, 0, 0, 0, 0, 0), (2201, .ifCond .ne 15, 2204, 2216, 2216, 0, 0, 0, 0, 0), (2204, .aload_n 3, 2205, 0, 0, 0, 0, 0, 0, 0), (2205, .iconst 0, 2206, 0, 0, 0, 0, 0, 0, 0), (2206, .laload, 2207, 0, 0, 0, 0, 0, 0, 0), (2207, .iload 6, 2209, 0, 0, 0, 0, 0, 0, 0), (2209, .i2l, 2210, 0, 0, 0, 0, 0, 0, 0), (2210, .lcmp, 2211, 0, 0, 0, 0, 0, 0, 0), (2211, .ifCond .eq 5, 2214, 2216, 2216, 0, 0, 0, 0, 0), (2214, .iconst 0, 2215, 0, 0, 0, 0, 0, 0, 0), (2215, .ireturn, 2216, 0, 0, 0, 0, 0, 0, 0), (2216, .goto 71, 2219, 2287, 2287, 0, 0, 0, 0, 0)]
theorem tkW_27 : tbW_27.all (cOK RL code) = true := by decide +kernel
set_option maxRecDepth 100000 in
set_option maxHeartbeats 400000 in
theorem law_27 (h0 : LC p l s m args meth c D ad A N xs) {i : Int} (i0 : 0 ≤ i) (i1 : i + 9 < N) (hf : cells + 11 ≤ room_1.cells ∧ slots + 66 ≤ room_1.slots) {a mo : Mm} {o : Int64} (h : FU a mo) (kk : ∀ a' m' o', FU a' m' → Wx p l e room_1 s m args below meth c (cells + 11) (slots + 66) Q lawV D ad A 7 2287 (LL i) [] (mix a' m') o') : Wx p l e room_1 s m args below meth c cells slots Q lawV D ad A 7 2163 (LL i) [] (mix a mo) o := by
  obtain ⟨hC, hN, hT, hR, hst, hX, hb, hN0⟩ := h0
  have hij := hC.2.2.2.2.2.2.2.2.1
  have hIA := h.2.2.2.2.2.2.2.1
  have hMV := FU_MV h
  have hIM := hMV.1
  have hIC := FU_IC h
  have hw26 := h.2.2.2.2.2.1
  have hw45 := h.2.2.2.2.2.2.1
  have hdat := FU_dat h
  refine wpl hC ⟨Nat.le_trans (by omega) hf.1, Nat.le_trans (by omega) hf.2⟩ tkW_27 [2164] 3 ?_
  refine Wx.reads' hC hX hb hN0 rfl rfl i0 law00 [1] 2164 _ (by decide +kernel) (by (repeat' first | exact fun _ h => absurd h List.not_mem_nil | refine List.forall_mem_cons.mpr ⟨?_, ?_⟩) <;> omega) (pc' := 2170) (by decide +kernel) (S' := [xi (scr xs (i + 1)), xr 1 0]) rfl ?_
  have hrd : ∀ (k9 : Int) (a9 : Mm) (o9 : Int64) (c9 s9 : Nat), Wx p l e room_1 s m args below meth c c9 s9 Q lawV D ad A 7 2183 (lset (LL i) 5 (xi k9)) [xi (scr xs (i + 1)), xr 40 0] (mix a9 mo) o9 → Wx p l e room_1 s m args below meth c c9 s9 Q lawV D ad A 7 2177 (lset (LL i) 5 (xi k9)) [xr 40 0] (mix a9 mo) o9 := fun k9 a9 o9 c9 s9 h9 => by
    exact Wx.reads' hC hX hb hN0 rfl rfl i0 law00 [1] 2177 _ (by decide +kernel) (by (repeat' first | exact fun _ h => absurd h List.not_mem_nil | refine List.forall_mem_cons.mpr ⟨?_, ?_⟩) <;> omega) (pc' := 2183) (by decide +kernel) (S' := [xi (scr xs (i + 1)), xr 40 0]) rfl h9
  have w1 := wr_scr xs (i + 1)
  generalize scr xs (i + 1) = p1 at w1 hrd ⊢
  refine wpl hC ⟨Nat.le_trans (by omega) hf.1, Nat.le_trans (by omega) hf.2⟩ tkW_27 [] 3 ?_
  have hc := call_replay h p1
  have hM := W_replay a o p1 w1 hIA hIC.2
  rw [hc.1] at hM
  refine Wx.lW (y := iL_replay) (avs := [_, _, _]) (rest := []) hC hN hT hR hst tkW_27 rfl rfl rfl kL_replay (by decide +kernel) hM rfl (Nat.zero_le _) (by repeat' first | exact fun _ h => absurd h List.not_mem_nil | exact cl10 | exact cl35 | exact trivial | refine List.forall_mem_cons.mpr ⟨?_, ?_⟩) ⟨Nat.le_trans (by omega) hf.1, Nat.le_trans (by omega) hf.2⟩ ?_
  rintro r a' o' ⟨rfl, rfl, rfl⟩
  refine wpl hC ⟨Nat.le_trans (by omega) hf.1, Nat.le_trans (by omega) hf.2⟩ tkW_27 [2177] 4 ?_
  refine hrd _ _ _ _ _ ?_
  refine Wx.lV (V' := moV) (g := fun m => mix _ m) (y := iX11_replay) (avs := [_]) (rest := []) hC hN (loc_mo _) (Or.inr fun r m' o' hF => hF.2.2.symm) (wf_mo hij) mo40 tkW_27 rfl rfl kX11_replay (by decide +kernel) (M_mreplay p1 _ _ w1 hMV) ⟨rfl, rfl⟩ rfl (Nat.zero_le _) (by repeat' first | exact fun _ h => absurd h List.not_mem_nil | exact trivial | refine List.forall_mem_cons.mpr ⟨?_, ?_⟩) ⟨Nat.le_trans (by omega) hf.1, Nat.le_trans (by omega) hf.2⟩ ?_
  rintro r m' o' ⟨rfl, rfl, rfl⟩
  refine wpl hC ⟨Nat.le_trans (by omega) hf.1, Nat.le_trans (by omega) hf.2⟩ tkW_27 [] 4 ?_
  refine Wx.lV (V' := moV) (g := fun m => mix _ m) (y := iX11_thrown) (avs := []) (rest := []) hC hN (loc_mo _) (Or.inr fun r m' o' hF => hF.2.2.symm) (wf_mo hij) mo40 tkW_27 rfl rfl kX11_thrown (by decide +kernel) (M_thrown _ _) ⟨rfl, rfl⟩ rfl (Nat.zero_le _) (fun _ h => absurd h List.not_mem_nil) ⟨Nat.le_trans (by omega) hf.1, Nat.le_trans (by omega) hf.2⟩ ?_
  rintro r m' o' ⟨rfl, rfl, rfl⟩
  refine wpl hC ⟨Nat.le_trans (by omega) hf.1, Nat.le_trans (by omega) hf.2⟩ tkW_27 [2287] 30 ?_
  refine ⟨fun _ => ⟨fun _ => Wx.widen (k := cells + 11) (n := slots + 66) (by omega) (by omega) (Wx.pick [0, 1, 2, 3, 4] rfl (kk _ _ _ hc.2.1.1)), fun hk => ?_⟩, fun hne => absurd (congrArg wr (hc.2.1.2)) hne⟩
  have hcn := cdX_0 (by decide) hk
  exact ⟨rfl, fun _ => Wx.widen (k := cells + 11) (n := slots + 66) (by omega) (by omega) (Wx.pick [0, 1, 2, 3, 4] rfl (kk _ _ _ hc.2.1.1)), fun hne => absurd (cmp0 ((pif_t hcn).trans (congrArg Int32.toInt64 (congrArg I (hc.2.2 hcn))))) hne⟩
def tbW_28 : CT := [(2219, .aload_n 1, 2220, 0, 0, 0, 0, 0, 0, 0), (2220, .aload_n 0, 2221, 0, 0, 0, 0, 0, 0, 0), (2221, .iload 4, 2223, 0, 0, 0, 0, 0, 0, 0), (2223, .iconst 1, 2224, 0, 0, 0, 0, 0, 0, 0), (2224, .iadd, 2225, 0, 0, 0, 0, 0, 0, 0), (2225, .iaload, 2226, 0, 0, 0, 0, 0, 0, 0), (2226, .aload_n 0, 2227, 0, 0, 0, 0, 0, 0, 0), (2227, .iload 4, 2229, 0, 0, 0, 0, 0, 0, 0), (2229, .iconst 2, 2230, 0, 0, 0, 0, 0, 0, 0), (2230, .iadd, 2231, 0, 0, 0, 0, 0, 0, 0), (2231, .iaload, 2232, 0, 0, 0, 0, 0, 0, 0), (2232, .aload_n 3, 2233, 0, 0, 0, 0, 0, 0, 0), (2233, .invokestatic 213, 2236, 0, 0, 0, 0, 170, 923, 0), (2236, .istore 5, 2238, 0, 0, 0, 0, 0, 0, 0), (2238, .aload_n 2, 2239, 0, 0, 0, 0, 0, 0, 0), (2239, .aload_n 0, 2240, 0, 0, 0, 0, 0, 0, 0), (2240, .iload 4, 2242, 0, 0, 0, 0, 0, 0, 0), (2242, .iconst 1, 2243, 0, 0, 0, 0, 0, 0, 0), (2243, .iadd, 2244, 0, 0, 0, 0, 0, 0, 0), (2244, .iaload, 2245, 0, 0, 0, 0, 0, 0, 0), (2245, .aload_n 0, 2246, 0, 0, 0, 0, 0, 0, 0), (2246, .iload 4, 2248, 0, 0, 0, 0, 0, 0, 0), (2248, .iconst 2, 2249, 0, 0, 0, 0, 0, 0, 0), (2249, .iadd, 2250, 0, 0, 0, 0, 0, 0, 0), (2250, .iaload, 2251, 0, 0, 0, 0, 0, 0, 0), (2251, .invokevirtual 215, 2254, 0, 0, 0, 0, 140, 1401, 0), (2254, .istore 6, 2256, 0, 0, 0, 0, 0, 0, 0), (2256, .aload_n 2, 2257, 0, 0, 0, 0, 0, 0, 0), (2257, .invokevirtual 116, 2260, 0, 0, 0, 0, 71, 1129, 0), (2260, .iload 5, 2262, 0, 0, 0, 0, 0, 0, 0), (2262, .if_icmp .eq 5, 2265, 2267, 2267, 0, 0, 0, 0, 0), (2265, .iconst 0, 2266, 0, 0, 0, 0, 0, 0, 0), (2266, .ireturn, 2267, 0, 0, 0, 0, 0, 0, 0), (2267, .iload 5, 2269, 0, 0, 0, 0, 0, 0, 0), (2269, .ifCond .ne 15, 2272, 2284, 2284, 0, 0, 0, 0, 0), (2272, .aload_n 3, 2273, 0, 0, 0, 0, 0, 0, 0), (2273, .iconst 0, 2274, 0, 0, 0, 0, 0, 0, 0), (2274, .laload, 2275, 0, 0, 0, 0, 0, 0, 0), (2275, .iload 6, 2277, 0, 0, 0, 0, 0, 0, 0), (2277, .i2l, 2278, 0, 0, 0, 0, 0, 0, 0), (2278, .lcmp, 2279, 0, 0, 0, 0, 0, 0, 0), (2279, .ifCond .eq 5, 2282, 2284, 2284, 0, 0, 0, 0, 0), (2282, .iconst 0, 2283, 0, 0, 0, 0, 0, 0, 0), (2283, .ireturn, 2284, 0, 0, 0, 0, 0, 0, 0), (2284, .goto 3, 2287, 2287, 2287, 0, 0, 0, 0, 0)]
theorem tkW_28 : tbW_28.all (cOK RL code) = true := by decide +kernel
set_option maxRecDepth 100000 in
set_option maxHeartbeats 400000 in
theorem law_28 (h0 : LC p l s m args meth c D ad A N xs) {i : Int} (i0 : 0 ≤ i) (i1 : i + 9 < N) (hf : cells + 11 ≤ room_1.cells ∧ slots + 66 ≤ room_1.slots) {a mo : Mm} {o : Int64} (h : FU a mo) (kk : ∀ a' m' o', FU a' m' → Wx p l e room_1 s m args below meth c (cells + 11) (slots + 66) Q lawV D ad A 7 2287 (LL i) [] (mix a' m') o') : Wx p l e room_1 s m args below meth c cells slots Q lawV D ad A 7 2219 (LL i) [] (mix a mo) o := by
  obtain ⟨hC, hN, hT, hR, hst, hX, hb, hN0⟩ := h0
  have hij := hC.2.2.2.2.2.2.2.2.1
  have hIA := h.2.2.2.2.2.2.2.1
  have hMV := FU_MV h
  have hIM := hMV.1
  have hIC := FU_IC h
  have hw26 := h.2.2.2.2.2.1
  have hw45 := h.2.2.2.2.2.2.1
  have hdat := FU_dat h
  refine wpl hC ⟨Nat.le_trans (by omega) hf.1, Nat.le_trans (by omega) hf.2⟩ tkW_28 [2220] 3 ?_
  refine Wx.reads' hC hX hb hN0 rfl rfl i0 law00 [1, 2] 2220 _ (by decide +kernel) (by (repeat' first | exact fun _ h => absurd h List.not_mem_nil | refine List.forall_mem_cons.mpr ⟨?_, ?_⟩) <;> omega) (pc' := 2232) (by decide +kernel) (S' := [xi (scr xs (i + 2)), xi (scr xs (i + 1)), xr 1 0]) rfl ?_
  have hrd : ∀ (k9 : Int) (a9 : Mm) (o9 : Int64) (c9 s9 : Nat), Wx p l e room_1 s m args below meth c c9 s9 Q lawV D ad A 7 2251 (lset (LL i) 5 (xi k9)) [xi (scr xs (i + 2)), xi (scr xs (i + 1)), xr 40 0] (mix a9 mo) o9 → Wx p l e room_1 s m args below meth c c9 s9 Q lawV D ad A 7 2239 (lset (LL i) 5 (xi k9)) [xr 40 0] (mix a9 mo) o9 := fun k9 a9 o9 c9 s9 h9 => by
    exact Wx.reads' hC hX hb hN0 rfl rfl i0 law00 [1, 2] 2239 _ (by decide +kernel) (by (repeat' first | exact fun _ h => absurd h List.not_mem_nil | refine List.forall_mem_cons.mpr ⟨?_, ?_⟩) <;> omega) (pc' := 2251) (by decide +kernel) (S' := [xi (scr xs (i + 2)), xi (scr xs (i + 1)), xr 40 0]) rfl h9
  have w1 := wr_scr xs (i + 1)
  have w2 := wr_scr xs (i + 2)
  generalize scr xs (i + 1) = p1 at w1 hrd ⊢
  generalize scr xs (i + 2) = p2 at w2 hrd ⊢
  refine wpl hC ⟨Nat.le_trans (by omega) hf.1, Nat.le_trans (by omega) hf.2⟩ tkW_28 [] 3 ?_
  have hc := call_best h p1 p2
  have hM := W_bestOrder a o p1 p2 w1 w2 hIA
  refine Wx.lW (y := iL_bestOrder) (avs := [_, _, _, _]) (rest := []) hC hN hT hR hst tkW_28 rfl rfl rfl kL_bestOrder (by decide +kernel) hM rfl (Nat.zero_le _) (by repeat' first | exact fun _ h => absurd h List.not_mem_nil | exact cl10 | exact cl35 | exact trivial | refine List.forall_mem_cons.mpr ⟨?_, ?_⟩) ⟨Nat.le_trans (by omega) hf.1, Nat.le_trans (by omega) hf.2⟩ ?_
  rintro r a' o' ⟨rfl, rfl, rfl⟩
  refine wpl hC ⟨Nat.le_trans (by omega) hf.1, Nat.le_trans (by omega) hf.2⟩ tkW_28 [2239] 4 ?_
  refine hrd _ _ _ _ _ ?_
  refine Wx.lV (V' := moV) (g := fun m => mix _ m) (y := iX11_bestOrder) (avs := [_, _]) (rest := []) hC hN (loc_mo _) (Or.inr fun r m' o' hF => hF.2.2.symm) (wf_mo hij) mo40 tkW_28 rfl rfl kX11_bestOrder (by decide +kernel) (M_mbestOrder p1 p2 _ _ w1 w2 hIM) ⟨rfl, rfl⟩ rfl (Nat.zero_le _) (by repeat' first | exact fun _ h => absurd h List.not_mem_nil | exact trivial | refine List.forall_mem_cons.mpr ⟨?_, ?_⟩) ⟨Nat.le_trans (by omega) hf.1, Nat.le_trans (by omega) hf.2⟩ ?_
  rintro r m' o' ⟨rfl, rfl, rfl⟩
  refine wpl hC ⟨Nat.le_trans (by omega) hf.1, Nat.le_trans (by omega) hf.2⟩ tkW_28 [] 4 ?_
  refine Wx.lV (V' := moV) (g := fun m => mix _ m) (y := iX11_thrown) (avs := []) (rest := []) hC hN (loc_mo _) (Or.inr fun r m' o' hF => hF.2.2.symm) (wf_mo hij) mo40 tkW_28 rfl rfl kX11_thrown (by decide +kernel) (M_thrown _ _) ⟨rfl, rfl⟩ rfl (Nat.zero_le _) (fun _ h => absurd h List.not_mem_nil) ⟨Nat.le_trans (by omega) hf.1, Nat.le_trans (by omega) hf.2⟩ ?_
  rintro r m' o' ⟨rfl, rfl, rfl⟩
  refine wpl hC ⟨Nat.le_trans (by omega) hf.1, Nat.le_trans (by omega) hf.2⟩ tkW_28 [2287] 30 ?_
  refine ⟨fun _ => ⟨fun _ => Wx.widen (k := cells + 11) (n := slots + 66) (by omega) (by omega) (Wx.pick [0, 1, 2, 3, 4] rfl (kk _ _ _ hc.1.1)), fun hk => ?_⟩, fun hne => absurd (congrArg wr (hc.1.2)) hne⟩
  have hcn := cdX_0 (by decide) hk
  exact ⟨rfl, fun _ => Wx.widen (k := cells + 11) (n := slots + 66) (by omega) (by omega) (Wx.pick [0, 1, 2, 3, 4] rfl (kk _ _ _ hc.1.1)), fun hne => absurd (cmp0 ((pif_t hcn).trans (congrArg Int32.toInt64 (congrArg I (hc.2 hcn))))) hne⟩
end CTX
