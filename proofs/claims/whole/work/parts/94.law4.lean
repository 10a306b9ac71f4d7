/-! ===== the law, case by case, 4 ===== -/
section CTX
variable {p : Program} {l : Launch} {e : Env} {s : State} {m : MethodId} {args : Array Value} {below : List Frame} {meth : Method} {c : Code} {cells slots : Nat} {Q : State → Prop} {D : DD} {ad : Nat → Int → Nat} {A : Nat → Prop} {N : Nat} {xs : Nat → Int32}
def tbW_14 : CT := [(1403, .aload_n 1, 1404, 0, 0, 0, 0, 0, 0, 0), (1404, .aload_n 0, 1405, 0, 0, 0, 0, 0, 0, 0), (1405, .iload 4, 1407, 0, 0, 0, 0, 0, 0, 0), (1407, .iconst 1, 1408, 0, 0, 0, 0, 0, 0, 0), (1408, .iadd, 1409, 0, 0, 0, 0, 0, 0, 0), (1409, .iaload, 1410, 0, 0, 0, 0, 0, 0, 0), (1410, .aload_n 0, 1411, 0, 0, 0, 0, 0, 0, 0), (1411, .iload 4, 1413, 0, 0, 0, 0, 0, 0, 0), (1413, .iconst 2, 1414, 0, 0, 0, 0, 0, 0, 0), (1414, .iadd, 1415, 0, 0, 0, 0, 0, 0, 0), (1415, .iaload, 1416, 0, 0, 0, 0, 0, 0, 0), (1416, .aload_n 3, 1417, 0, 0, 0, 0, 0, 0, 0), (1417, .invokestatic 167, 1420, 0, 0, 0, 0, 159, 717, 0), (1420, .istore 5, 1422, 0, 0, 0, 0, 0, 0, 0), (1422, .aload_n 2, 1423, 0, 0, 0, 0, 0, 0, 0), (1423, .aload_n 0, 1424, 0, 0, 0, 0, 0, 0, 0), (1424, .iload 4, 1426, 0, 0, 0, 0, 0, 0, 0), (1426, .iconst 1, 1427, 0, 0, 0, 0, 0, 0, 0), (1427, .iadd, 1428, 0, 0, 0, 0, 0, 0, 0), (1428, .iaload, 1429, 0, 0, 0, 0, 0, 0, 0), (1429, .aload_n 0, 1430, 0, 0, 0, 0, 0, 0, 0), (1430, .iload 4, 1432, 0, 0, 0, 0, 0, 0, 0), (1432, .iconst 2, 1433, 0, 0, 0, 0, 0, 0, 0), (1433, .iadd, 1434, 0, 0, 0, 0, 0, 0, 0), (1434, .iaload, 1435, 0, 0, 0, 0, 0, 0, 0), (1435, .invokevirtual 169, 1438, 0, 0, 0, 0, 106, 1253, 0), (1438, .istore 6, 1440, 0, 0, 0, 0, 0, 0, 0), (1440, .aload_n 2, 1441, 0, 0, 0, 0, 0, 0, 0), (1441, .invokevirtual 116, 1444, 0, 0, 0, 0, 71, 1129, 0), (1444, .iload 5, 1446, 0, 0, 0, 0, 0, 0, 0), (1446, .if_icmp .eq 5, 1449, 1451, 1451, 0, 0, 0, 0, 0), (1449, .iconst 0, 1450, 0, 0, 0, 0, 0, 0, 0), (1450, .ireturn, 1451, 0, 0, 0, 0, 0, 0, 0), (1451, .iload 5, 1453, 0, 0, 0, 0, 0, 0, 0), (1453, .ifCond .ne 22, 1456, 1475, 1475, 0, 0, 0, 0, 0), (1456, .aload_n 3, 1457, 0, 0, 0, 0, 0, 0, 0), (1457, .iconst 0, 1458, 0, 0, 0, 0, 0, 0, 0), (1458, .laload, 1459, 0, 0, 0, 0, 0, 0, 0), (1459, .iload 6, 1461, 0, 0, 0, 0, 0, 0, 0), (1461, .ifCond .eq 7, 1464, 1468, 1468, 0, 0, 0, 0, 0), (1464, .lconst 1, 1465, 0, 0, 0, 0, 0, 0, 0), (1465, .goto 4, 1468, 1469, 1469, 0, 0, 0, 0, 0), (1468, .lconst 0, 1469, 0, 0, 0, 0, 0, 0, 0), (1469, .lcmp, 1470, 0, 0, 0, 0, 0, 0, 0), (1470, .ifCond .eq 5, 1473, 1475, 1475, 0, 0, 0, 0, 0), (1473, .iconst 0, 1474, 0, 0, 0, 0, 0, 0, 0), (1474, .ireturn, 1475, 0, 0, 0, 0, 0, 0, 0), (1475, .goto 812, 1478, 2287, 2287, 0, 0, 0, 0, 0)]
theorem tkW_14 : tbW_14.all (cOK RL code) = true := by decide +kernel
set_option maxRecDepth 100000 in
set_option maxHeartbeats 400000 in
theorem law_14 (h0 : LC p l s m args meth c D ad A N xs) {i : Int} (i0 : 0 ≤ i) (i1 : i + 9 < N) (hf : cells + 11 ≤ room_1.cells ∧ slots + 66 ≤ room_1.slots) {a mo : Mm} {o : Int64} (h : FU a mo) (kk : ∀ a' m' o', FU a' m' → Wx p l e room_1 s m args below meth c (cells + 11) (slots + 66) Q lawV D ad A 7 2287 (LL i) [] (mix a' m') o') : Wx p l e room_1 s m args below meth c cells slots Q lawV D ad A 7 1403 (LL i) [] (mix a mo) o := by
  obtain ⟨hC, hN, hT, hR, hst, hX, hb, hN0⟩ := h0
  have hij := hC.2.2.2.2.2.2.2.2.1
  have hIA := h.2.2.2.2.2.2.2.1
  have hMV := FU_MV h
  have hIM := hMV.1
  have hIC := FU_IC h
  have hw26 := h.2.2.2.2.2.1
  have hw45 := h.2.2.2.2.2.2.1
  have hdat := FU_dat h
  refine wpl hC ⟨Nat.le_trans (by omega) hf.1, Nat.le_trans (by omega) hf.2⟩ tkW_14 [1404] 3 ?_
  refine Wx.reads' hC hX hb hN0 rfl rfl i0 law00 [1, 2] 1404 _ (by decide +kernel) (by (repeat' first | exact fun _ h => absurd h List.not_mem_nil | refine List.forall_mem_cons.mpr ⟨?_, ?_⟩) <;> omega) (pc' := 1416) (by decide +kernel) (S' := [xi (scr xs (i + 2)), xi (scr xs (i + 1)), xr 1 0]) rfl ?_
  have hrd : ∀ (k9 : Int) (a9 : Mm) (o9 : Int64) (c9 s9 : Nat), Wx p l e room_1 s m args below meth c c9 s9 Q lawV D ad A 7 1435 (lset (LL i) 5 (xi k9)) [xi (scr xs (i + 2)), xi (scr xs (i + 1)), xr 40 0] (mix a9 mo) o9 → Wx p l e room_1 s m args below meth c c9 s9 Q lawV D ad A 7 1423 (lset (LL i) 5 (xi k9)) [xr 40 0] (mix a9 mo) o9 := fun k9 a9 o9 c9 s9 h9 => by
    exact Wx.reads' hC hX hb hN0 rfl rfl i0 law00 [1, 2] 1423 _ (by decide +kernel) (by (repeat' first | exact fun _ h => absurd h List.not_mem_nil | refine List.forall_mem_cons.mpr ⟨?_, ?_⟩) <;> omega) (pc' := 1435) (by decide +kernel) (S' := [xi (scr xs (i + 2)), xi (scr xs (i + 1)), xr 40 0]) rfl h9
  have w1 := wr_scr xs (i + 1)
  have w2 := wr_scr xs (i + 2)
  generalize scr xs (i + 1) = p1 at w1 hrd ⊢
  generalize scr xs (i + 2) = p2 at w2 hrd ⊢
  refine wpl hC ⟨Nat.le_trans (by omega) hf.1, Nat.le_trans (by omega) hf.2⟩ tkW_14 [] 3 ?_
  have hc := call_wants h p1 p2
  have hM := W_wants a o p1 p2 w1 w2 hIA
  rw [hc.1] at hM
  refine Wx.lW (y := iL_wants) (avs := [_, _, _, _]) (rest := []) hC hN hT hR hst tkW_14 rfl rfl rfl kL_wants (by decide +kernel) hM rfl (Nat.zero_le _) (by repeat' first | exact fun _ h => absurd h List.not_mem_nil | exact cl10 | exact cl35 | exact trivial | refine List.forall_mem_cons.mpr ⟨?_, ?_⟩) ⟨Nat.le_trans (by omega) hf.1, Nat.le_trans (by omega) hf.2⟩ ?_
  rintro r a' o' ⟨rfl, rfl, rfl⟩
  refine wpl hC ⟨Nat.le_trans (by omega) hf.1, Nat.le_trans (by omega) hf.2⟩ tkW_14 [1423] 4 ?_
  refine hrd _ _ _ _ _ ?_
  refine Wx.lV (V' := moV) (g := fun m => mix _ m) (y := iX11_wants) (avs := [_, _]) (rest := []) hC hN (loc_mo _) (Or.inr fun r m' o' hF => hF.2.2.symm) (wf_mo hij) mo40 tkW_14 rfl rfl kX11_wants (by decide +kernel) (M_mwants p1 p2 _ _ w1 w2 hIM.2.1.1 hIM.2.1.2 (fun a0 a1 => (h.1.2.1.2.2.2.1 _ a0 a1).1.2.2.2.2.2.2.1.1)) ⟨rfl, rfl⟩ rfl (Nat.zero_le _) (by repeat' first | exact fun _ h => absurd h List.not_mem_nil | exact trivial | refine List.forall_mem_cons.mpr ⟨?_, ?_⟩) ⟨Nat.le_trans (by omega) hf.1, Nat.le_trans (by omega) hf.2⟩ ?_
  rintro r m' o' ⟨rfl, rfl, rfl⟩
  refine wpl hC ⟨Nat.le_trans (by omega) hf.1, Nat.le_trans (by omega) hf.2⟩ tkW_14 [] 4 ?_
  refine Wx.lV (V' := moV) (g := fun m => mix _ m) (y := iX11_thrown) (avs := []) (rest := []) hC hN (loc_mo _) (Or.inr fun r m' o' hF => hF.2.2.symm) (wf_mo hij) mo40 tkW_14 rfl rfl kX11_thrown (by decide +kernel) (M_thrown _ _) ⟨rfl, rfl⟩ rfl (Nat.zero_le _) (fun _ h => absurd h List.not_mem_nil) ⟨Nat.le_trans (by omega) hf.1, Nat.le_trans (by omega) hf.2⟩ ?_
  rintro r m' o' ⟨rfl, rfl, rfl⟩
  have hfu := fun (c9 : Option String) => md_read (Es := E0) (c := c9) h (by decide)
  refine wpl hC ⟨Nat.le_trans (by omega) hf.1, Nat.le_trans (by omega) hf.2⟩ tkW_14 [2287] 30 ?_
  refine ⟨fun _ => ⟨fun _ => Wx.widen (k := cells + 11) (n := slots + 66) (by omega) (by omega) (Wx.pick [0, 1, 2, 3, 4] rfl (kk _ _ _ (hfu _).1)), fun hk => ?_⟩, fun hne => absurd (congrArg wr ((hfu _).2)) hne⟩
  have hcn := cdX_0 (by decide) hk
  have h01 := fun (P : Prop) => bzw P
  exact ⟨rfl, fun hb0 => ⟨fun _ => Wx.widen (k := cells + 11) (n := slots + 66) (by omega) (by omega) (Wx.pick [0, 1, 2, 3, 4] rfl (kk _ _ _ (hfu _).1)), fun hne => absurd (cmp0 ((pif_t hcn).trans (i64_0 ((congrArg wr (hc.2 hcn)).trans hb0)).symm)) hne⟩, fun hb0 => ⟨fun _ => Wx.widen (k := cells + 11) (n := slots + 66) (by omega) (by omega) (Wx.pick [0, 1, 2, 3, 4] rfl (kk _ _ _ (hfu _).1)), fun hne => absurd (cmp0 ((pif_t hcn).trans (i64_1 ((h01 _).resolve_left fun q => hb0 ((congrArg wr (hc.2 hcn)).symm.trans q))).symm)) hne⟩⟩
def tbW_15 : CT := [(1478, .aload_n 1, 1479, 0, 0, 0, 0, 0, 0, 0), (1479, .aload_n 0, 1480, 0, 0, 0, 0, 0, 0, 0), (1480, .iload 4, 1482, 0, 0, 0, 0, 0, 0, 0), (1482, .iconst 1, 1483, 0, 0, 0, 0, 0, 0, 0), (1483, .iadd, 1484, 0, 0, 0, 0, 0, 0, 0), (1484, .iaload, 1485, 0, 0, 0, 0, 0, 0, 0), (1485, .aload_n 0, 1486, 0, 0, 0, 0, 0, 0, 0), (1486, .iload 4, 1488, 0, 0, 0, 0, 0, 0, 0), (1488, .iconst 2, 1489, 0, 0, 0, 0, 0, 0, 0), (1489, .iadd, 1490, 0, 0, 0, 0, 0, 0, 0), (1490, .iaload, 1491, 0, 0, 0, 0, 0, 0, 0), (1491, .aload_n 0, 1492, 0, 0, 0, 0, 0, 0, 0), (1492, .iload 4, 1494, 0, 0, 0, 0, 0, 0, 0), (1494, .iconst 3, 1495, 0, 0, 0, 0, 0, 0, 0), (1495, .iadd, 1496, 0, 0, 0, 0, 0, 0, 0), (1496, .iaload, 1497, 0, 0, 0, 0, 0, 0, 0), (1497, .aload_n 3, 1498, 0, 0, 0, 0, 0, 0, 0), (1498, .invokestatic 170, 1501, 0, 0, 0, 0, 160, 733, 0), (1501, .istore 5, 1503, 0, 0, 0, 0, 0, 0, 0), (1503, .aload_n 2, 1504, 0, 0, 0, 0, 0, 0, 0), (1504, .aload_n 0, 1505, 0, 0, 0, 0, 0, 0, 0), (1505, .iload 4, 1507, 0, 0, 0, 0, 0, 0, 0), (1507, .iconst 1, 1508, 0, 0, 0, 0, 0, 0, 0), (1508, .iadd, 1509, 0, 0, 0, 0, 0, 0, 0), (1509, .iaload, 1510, 0, 0, 0, 0, 0, 0, 0), (1510, .aload_n 0, 1511, 0, 0, 0, 0, 0, 0, 0), (1511, .iload 4, 1513, 0, 0, 0, 0, 0, 0, 0), (1513, .iconst 2, 1514, 0, 0, 0, 0, 0, 0, 0), (1514, .iadd, 1515, 0, 0, 0, 0, 0, 0, 0), (1515, .iaload, 1516, 0, 0, 0, 0, 0, 0, 0), (1516, .aload_n 0, 1517, 0, 0, 0, 0, 0, 0, 0), (1517, .iload 4, 1519, 0, 0, 0, 0, 0, 0, 0), (1519, .iconst 3, 1520, 0, 0, 0, 0, 0, 0, 0), (1520, .iadd, 1521, 0, 0, 0, 0, 0, 0, 0), (1521, .iaload, 1522, 0, 0, 0, 0, 0, 0, 0), (1522, .invokevirtual 172, 1525, 0, 0, 0, 0, 109, 1265, 0), (1525, .istore 6, 1527, 0, 0, 0, 0, 0, 0, 0), (1527, .aload_n 2, 1528, 0, 0, 0, 0, 0, 0, 0), (1528, .invokevirtual 116, 1531, 0, 0, 0, 0, 71, 1129, 0), (1531, .iload 5, 1533, 0, 0, 0, 0, 0, 0, 0), (1533, .if_icmp .eq 5, 1536, 1538, 1538, 0, 0, 0, 0, 0), (1536, .iconst 0, 1537, 0, 0, 0, 0, 0, 0, 0), (1537, .ireturn, 1538, 0, 0, 0, 0, 0, 0, 0), (1538, .iload 5, 1540, 0, 0, 0, 0, 0, 0, 0), (1540, .ifCond .ne 15, 1543, 1555, 1555, 0, 0, 0, 0, 0), (1543, .aload_n 3, 1544, 0, 0, 0, 0, 0, 0, 0), (1544, .iconst 0, 1545, 0, 0, 0, 0, 0, 0, 0), (1545, .laload, 1546, 0, 0, 0, 0, 0, 0, 0), (1546, .iload 6, 1548, 0, 0, 0, 0, 0, 0, 0), (1548, .i2l, 1549, 0, 0, 0, 0, 0, 0, 0), (1549, .lcmp, 1550, 0, 0, 0, 0, 0, 0, 0), (1550, .ifCond .eq 5, 1553, 1555, 1555, 0, 0, 0, 0, 0), (1553, .iconst 0, 1554, 0, 0, 0, 0, 0, 0, 0), (1554, .ireturn, 1555, 0, 0, 0, 0, 0, 0, 0), (1555, .goto 732, 1558, 2287, 2287, 0, 0, 0, 0, 0)]
theorem tkW_15 : tbW_15.all (cOK RL code) = true := by decide +kernel
set_option maxRecDepth 100000 in
set_option maxHeartbeats 400000 in
theorem law_15 (h0 : LC p l s m args meth c D ad A N xs) {i : Int} (i0 : 0 ≤ i) (i1 : i + 9 < N) (hf : cells + 11 ≤ room_1.cells ∧ slots + 66 ≤ room_1.slots) {a mo : Mm} {o : Int64} (h : FU a mo) (kk : ∀ a' m' o', FU a' m' → Wx p l e room_1 s m args below meth c (cells + 11) (slots + 66) Q lawV D ad A 7 2287 (LL i) [] (mix a' m') o') : Wx p l e room_1 s m args below meth c cells slots Q lawV D ad A 7 1478 (LL i) [] (mix a mo) o := by
  obtain ⟨hC, hN, hT, hR, hst, hX, hb, hN0⟩ := h0
  have hij := hC.2.2.2.2.2.2.2.2.1
  have hIA := h.2.2.2.2.2.2.2.1
  have hMV := FU_MV h
  have hIM := hMV.1
  have hIC := FU_IC h
  have hw26 := h.2.2.2.2.2.1
  have hw45 := h.2.2.2.2.2.2.1
  have hdat := FU_dat h
  refine wpl hC ⟨Nat.le_trans (by omega) hf.1, Nat.le_trans (by omega) hf.2⟩ tkW_15 [1479] 3 ?_
  refine Wx.reads' hC hX hb hN0 rfl rfl i0 law00 [1, 2, 3] 1479 _ (by decide +kernel) (by (repeat' first | exact fun _ h => absurd h List.not_mem_nil | refine List.forall_mem_cons.mpr ⟨?_, ?_⟩) <;> omega) (pc' := 1497) (by decide +kernel) (S' := [xi (scr xs (i + 3)), xi (scr xs (i + 2)), xi (scr xs (i + 1)), xr 1 0]) rfl ?_
  have hrd : ∀ (k9 : Int) (a9 : Mm) (o9 : Int64) (c9 s9 : Nat), Wx p l e room_1 s m args below meth c c9 s9 Q lawV D ad A 7 1522 (lset (LL i) 5 (xi k9)) [xi (scr xs (i + 3)), xi (scr xs (i + 2)), xi (scr xs (i + 1)), xr 40 0] (mix a9 mo) o9 → Wx p l e room_1 s m args below meth c c9 s9 Q lawV D ad A 7 1504 (lset (LL i) 5 (xi k9)) [xr 40 0] (mix a9 mo) o9 := fun k9 a9 o9 c9 s9 h9 => by
    exact Wx.reads' hC hX hb hN0 rfl rfl i0 law00 [1, 2, 3] 1504 _ (by decide +kernel) (by (repeat' first | exact fun _ h => absurd h List.not_mem_nil | refine List.forall_mem_cons.mpr ⟨?_, ?_⟩) <;> omega) (pc' := 1522) (by decide +kernel) (S' := [xi (scr xs (i + 3)), xi (scr xs (i + 2)), xi (scr xs (i + 1)), xr 40 0]) rfl h9
  have w1 := wr_scr xs (i + 1)
  have w2 := wr_scr xs (i + 2)
  have w3 := wr_scr xs (i + 3)
  generalize scr xs (i + 1) = p1 at w1 hrd ⊢
  generalize scr xs (i + 2) = p2 at w2 hrd ⊢
  generalize scr xs (i + 3) = p3 at w3 hrd ⊢
  refine wpl hC ⟨Nat.le_trans (by omega) hf.1, Nat.le_trans (by omega) hf.2⟩ tkW_15 [] 3 ?_
  have hc := call_chances h p1 p2 p3
  have hM := W_chances a o p1 p2 p3 w1 w2 w3 hIA
  rw [hc.1] at hM
  refine Wx.lW (y := iL_chances) (avs := [_, _, _, _, _]) (rest := []) hC hN hT hR hst tkW_15 rfl rfl rfl kL_chances (by decide +kernel) hM rfl (Nat.zero_le _) (by repeat' first | exact fun _ h => absurd h List.not_mem_nil | exact cl10 | exact cl35 | exact trivial | refine List.forall_mem_cons.mpr ⟨?_, ?_⟩) ⟨Nat.le_trans (by omega) hf.1, Nat.le_trans (by omega) hf.2⟩ ?_
  rintro r a' o' ⟨rfl, rfl, rfl⟩
  refine wpl hC ⟨Nat.le_trans (by omega) hf.1, Nat.le_trans (by omega) hf.2⟩ tkW_15 [1504] 4 ?_
  refine hrd _ _ _ _ _ ?_
  refine Wx.lV (V' := moV) (g := fun m => mix _ m) (y := iX11_chances) (avs := [_, _, _]) (rest := []) hC hN (loc_mo _) (Or.inr fun r m' o' hF => hF.2.2.symm) (wf_mo hij) mo40 tkW_15 rfl rfl kX11_chances (by decide +kernel) (M_mchances p1 p2 p3 _ _ w1 w2 w3 hIM) ⟨rfl, rfl⟩ rfl (Nat.zero_le _) (by repeat' first | exact fun _ h => absurd h List.not_mem_nil | exact trivial | refine List.forall_mem_cons.mpr ⟨?_, ?_⟩) ⟨Nat.le_trans (by omega) hf.1, Nat.le_trans (by omega) hf.2⟩ ?_
  rintro r m' o' ⟨rfl, rfl, rfl⟩
  refine wpl hC ⟨Nat.le_trans (by omega) hf.1, Nat.le_trans (by omega) hf.2⟩ tkW_15 [] 4 ?_
  refine Wx.lV (V' := moV) (g := fun m => mix _ m) (y := iX11_thrown) (avs := []) (rest := []) hC hN (loc_mo _) (Or.inr fun r m' o' hF => hF.2.2.symm) (wf_mo hij) mo40 tkW_15 rfl rfl kX11_thrown (by decide +kernel) (M_thrown _ _) ⟨rfl, rfl⟩ rfl (Nat.zero_le _) (fun _ h => absurd h List.not_mem_nil) ⟨Nat.le_trans (by omega) hf.1, Nat.le_trans (by omega) hf.2⟩ ?_
  rintro r m' o' ⟨rfl, rfl, rfl⟩
  have hfu := fun (c9 : Option String) => md_read (Es := E0) (c := c9) h (by decide)
  refine wpl hC ⟨Nat.le_trans (by omega) hf.1, Nat.le_trans (by omega) hf.2⟩ tkW_15 [2287] 30 ?_
  refine ⟨fun _ => ⟨fun _ => Wx.widen (k := cells + 11) (n := slots + 66) (by omega) (by omega) (Wx.pick [0, 1, 2, 3, 4] rfl (kk _ _ _ (hfu _).1)), fun hk => ?_⟩, fun hne => absurd (congrArg wr ((hfu _).2)) hne⟩
  have hcn := cdX_0 (by decide) hk
  exact ⟨rfl, fun _ => Wx.widen (k := cells + 11) (n := slots + 66) (by omega) (by omega) (Wx.pick [0, 1, 2, 3, 4] rfl (kk _ _ _ (hfu _).1)), fun hne => absurd (cmp0 ((pif_t hcn).trans (congrArg Int32.toInt64 (congrArg I (hc.2 hcn))))) hne⟩
def tbW_16 : CT := [(1558, .aload_n 1, 1559, 0, 0, 0, 0, 0, 0, 0), (1559, .aload_n 0, 1560, 0, 0, 0, 0, 0, 0, 0), (1560, .iload 4, 1562, 0, 0, 0, 0, 0, 0, 0), (1562, .iconst 1, 1563, 0, 0, 0, 0, 0, 0, 0), (1563, .iadd, 1564, 0, 0, 0, 0, 0, 0, 0), (1564, .iaload, 1565, 0, 0, 0, 0, 0, 0, 0), (1565, .aload_n 3, 1566, 0, 0, 0, 0, 0, 0, 0), (1566, .invokestatic 173, 1569, 0, 0, 0, 0, 161, 761, 0), (1569, .istore 5, 1571, 0, 0, 0, 0, 0, 0, 0), (1571, .aload_n 2, 1572, 0, 0, 0, 0, 0, 0, 0), (1572, .aload_n 0, 1573, 0, 0, 0, 0, 0, 0, 0), (1573, .iload 4, 1575, 0, 0, 0, 0, 0, 0, 0), (1575, .iconst 1, 1576, 0, 0, 0, 0, 0, 0, 0), (1576, .iadd, 1577, 0, 0, 0, 0, 0, 0, 0), (1577, .iaload, 1578, 0, 0, 0, 0, 0, 0, 0), (1578, .invokevirtual 175, 1581, 0, 0, 0, 0, 125, 1285, 0), (1581, .istore 6, 1583, 0, 0, 0, 0, 0, 0, 0), (1583, .aload_n 2, 1584, 0, 0, 0, 0, 0, 0, 0), (1584, .invokevirtual 116, 1587, 0, 0, 0, 0, 71, 1129, 0), (1587, .iload 5, 1589, 0, 0, 0, 0, 0, 0, 0), (1589, .if_icmp .eq 5, 1592, 1594, 1594, 0, 0, 0, 0, 0), (1592, .iconst 0, 1593, 0, 0, 0, 0, 0, 0, 0), (1593, .ireturn, 1594, 0, 0, 0, 0, 0, 0, 0), (1594, .iload 5, 1596, 0, 0, 0, 0, 0, 0, 0), (1596, .ifCond .ne 15, 1599, 1611, 1611, 0, 0, 0, 0, 0), (1599, .aload_n 3, 1600, 0, 0, 0, 0, 0, 0, 0), (1600, .iconst 0, 1601, 0, 0, 0, 0, 0, 0, 0), (1601, .laload, 1602, 0, 0, 0, 0, 0, 0, 0), (1602, .iload 6, 1604, 0, 0, 0, 0, 0, 0, 0), (1604, .i2l, 1605, 0, 0, 0, 0, 0, 0, 0), (1605, .lcmp, 1606, 0, 0, 0, 0, 0, 0, 0), (1606, .ifCond .eq 5, 1609, 1611, 1611, 0, 0, 0, 0, 0), (1609, .iconst 0, 1610, 0, 0, 0, 0, 0, 0, 0), (1610, .ireturn, 1611, 0, 0, 0, 0, 0, 0, 0), (1611, .goto 676, 1614, 2287, 2287, 0, 0, 0, 0, 0)]
theorem tkW_16 : tbW_16.all (cOK RL code) = true := by decide +kernel
set_option maxRecDepth 100000 in
set_option maxHeartbeats 400000 in
theorem law_16 (h0 : LC p l s m args meth c D ad A N xs) {i : Int} (i0 : 0 ≤ i) (i1 : i + 9 < N) (hf : cells + 11 ≤ room_1.cells ∧ slots + 66 ≤ room_1.slots) {a mo : Mm} {o : Int64} (h : FU a mo) (kk : ∀ a' m' o', FU a' m' → Wx p l e room_1 s m args below meth c (cells + 11) (slots + 66) Q lawV D ad A 7 2287 (LL i) [] (mix a' m') o') : Wx p l e room_1 s m args below meth c cells slots Q lawV D ad A 7 1558 (LL i) [] (mix a mo) o := by
  obtain ⟨hC, hN, hT, hR, hst, hX, hb, hN0⟩ := h0
  have hij := hC.2.2.2.2.2.2.2.2.1
  have hIA := h.2.2.2.2.2.2.2.1
  have hMV := FU_MV h
  have hIM := hMV.1
  have hIC := FU_IC h
  have hw26 := h.2.2.2.2.2.1
  have hw45 := h.2.2.2.2.2.2.1
  have hdat := FU_dat h
  refine wpl hC ⟨Nat.le_trans (by omega) hf.1, Nat.le_trans (by omega) hf.2⟩ tkW_16 [1559] 3 ?_
  refine Wx.reads' hC hX hb hN0 rfl rfl i0 law00 [1] 1559 _ (by decide +kernel) (by (repeat' first | exact fun _ h => absurd h List.not_mem_nil | refine List.forall_mem_cons.mpr ⟨?_, ?_⟩) <;> omega) (pc' := 1565) (by decide +kernel) (S' := [xi (scr xs (i + 1)), xr 1 0]) rfl ?_
  have hrd : ∀ (k9 : Int) (a9 : Mm) (o9 : Int64) (c9 s9 : Nat), Wx p l e room_1 s m args below meth c c9 s9 Q lawV D ad A 7 1578 (lset (LL i) 5 (xi k9)) [xi (scr xs (i + 1)), xr 40 0] (mix a9 mo) o9 → Wx p l e room_1 s m args below meth c c9 s9 Q lawV D ad A 7 1572 (lset (LL i) 5 (xi k9)) [xr 40 0] (mix a9 mo) o9 := fun k9 a9 o9 c9 s9 h9 => by
    exact Wx.reads' hC hX hb hN0 rfl rfl i0 law00 [1] 1572 _ (by decide +kernel) (by (repeat' first | exact fun _ h => absurd h List.not_mem_nil | refine List.forall_mem_cons.mpr ⟨?_, ?_⟩) <;> omega) (pc' := 1578) (by decide +kernel) (S' := [xi (scr xs (i + 1)), xr 40 0]) rfl h9
  have w1 := wr_scr xs (i + 1)
  generalize scr xs (i + 1) = p1 at w1 hrd ⊢
  refine wpl hC ⟨Nat.le_trans (by omega) hf.1, Nat.le_trans (by omega) hf.2⟩ tkW_16 [] 3 ?_
  have hc := call_run h p1
  have hM := W_run a o p1 w1 hIA hIC.1 (by rw [hw26]; exact hw45.1) (by rw [hw26]; exact hw45.2)
  refine Wx.lW (y := iL_run) (avs := [_, _, _]) (rest := []) hC hN hT hR hst tkW_16 rfl rfl rfl kL_run (by decide +kernel) hM rfl (Nat.zero_le _) (by repeat' first | exact fun _ h => absurd h List.not_mem_nil | exact cl10 | exact cl35 | exact trivial | refine List.forall_mem_cons.mpr ⟨?_, ?_⟩) ⟨Nat.le_trans (by omega) hf.1, Nat.le_trans (by omega) hf.2⟩ ?_
  rintro r a' o' ⟨rfl, rfl, rfl⟩
  refine wpl hC ⟨Nat.le_trans (by omega) hf.1, Nat.le_trans (by omega) hf.2⟩ tkW_16 [1572] 4 ?_
  refine hrd _ _ _ _ _ ?_
  refine Wx.lV (V' := moV) (g := fun m => mix _ m) (y := iX11_run) (avs := [_]) (rest := []) hC hN (loc_mo _) (Or.inr fun r m' o' hF => hF.2.2.symm) (wf_mo hij) mo40 tkW_16 rfl rfl kX11_run (by decide +kernel) (M_mrun p1 _ _ w1 hMV hw45.1 hw45.2) ⟨rfl, rfl⟩ rfl (Nat.zero_le _) (by repeat' first | exact fun _ h => absurd h List.not_mem_nil | exact trivial | refine List.forall_mem_cons.mpr ⟨?_, ?_⟩) ⟨Nat.le_trans (by omega) hf.1, Nat.le_trans (by omega) hf.2⟩ ?_
  rintro r m' o' ⟨rfl, rfl, rfl⟩
  refine wpl hC ⟨Nat.le_trans (by omega) hf.1, Nat.le_trans (by omega) hf.2⟩ tkW_16 [] 4 ?_
  refine Wx.lV (V' := moV) (g := fun m => mix _ m) (y := iX11_thrown) (avs := []) (rest := []) hC hN (loc_mo _) (Or.inr fun r m' o' hF => hF.2.2.symm) (wf_mo hij) mo40 tkW_16 rfl rfl kX11_thrown (by decide +kernel) (M_thrown _ _) ⟨rfl, rfl⟩ rfl (Nat.zero_le _) (fun _ h => absurd h List.not_mem_nil) ⟨Nat.le_trans (by omega) hf.1, Nat.le_trans (by omega) hf.2⟩ ?_
  rintro r m' o' ⟨rfl, rfl, rfl⟩
  refine wpl hC ⟨Nat.le_trans (by omega) hf.1, Nat.le_trans (by omega) hf.2⟩ tkW_16 [2287] 30 ?_
  refine ⟨fun _ => ⟨fun _ => Wx.widen (k := cells + 11) (n := slots + 66) (by omega) (by omega) (Wx.pick [0, 1, 2, 3, 4] rfl (kk _ _ _ hc.1.1)), fun hk => ?_⟩, fun hne => absurd (congrArg wr (hc.1.2)) hne⟩
  have hcn := cdX_0 (by decide) hk
  exact ⟨rfl, fun _ => Wx.widen (k := cells + 11) (n := slots + 66) (by omega) (by omega) (Wx.pick [0, 1, 2, 3, 4] rfl (kk _ _ _ hc.1.1)), fun hne => absurd (cmp0 ((pif_t hcn).trans (congrArg Int32.toInt64 (congrArg I (hc.2 hcn))))) hne⟩
def tbW_17 : CT := [(1614, .aload_n 1, 1615, 0, 0, 0, 0, 0, 0, 0), (1615, .invokevirtual 176, 1618, 0, 0, 0, 0, 51, 445, 0), (1618, .aload_n 2, 1619, 0, 0, 0, 0, 0, 0, 0), (1619, .invokevirtual 179, 1622, 0, 0, 0, 0, 126, 1345, 0), (1622, .if_icmp .eq 665, 1625, 2287, 2287, 0, 0, 0, 0, 0), (1625, .iconst 0, 1626, 0, 0, 0, 0, 0, 0, 0), (1626, .ireturn, 1627, 0, 0, 0, 0, 0, 0, 0)]
theorem tkW_17 : tbW_17.all (cOK RL code) = true := by decide +kernel
set_option maxRecDepth 100000 in
set_option maxHeartbeats 400000 in
theorem law_17 (h0 : LC p l s m args meth c D ad A N xs) {i : Int} (i0 : 0 ≤ i) (i1 : i + 9 < N) (hf : cells + 11 ≤ room_1.cells ∧ slots + 66 ≤ room_1.slots) {a mo : Mm} {o : Int64} (h : FU a mo) (kk : ∀ a' m' o', FU a' m' → Wx p l e room_1 s m args below meth c (cells + 11) (slots + 66) Q lawV D ad A 7 2287 (LL i) [] (mix a' m') o') : Wx p l e room_1 s m args below meth c cells slots Q lawV D ad A 7 1614 (LL i) [] (mix a mo) o := by
  obtain ⟨hC, hN, hT, hR, hst, hX, hb, hN0⟩ := h0
  have hij := hC.2.2.2.2.2.2.2.2.1
  refine wpl hC ⟨Nat.le_trans (by omega) hf.1, Nat.le_trans (by omega) hf.2⟩ tkW_17 [] 3 ?_
  refine Wx.lV (V' := clV) (g := fun a => mix a _) (y := iX10_now) (avs := []) (rest := []) hC hN (loc_cl _) (Or.inl fun i h => ⟨by decide, lawV_r h (by decide)⟩) (wf_cl hij) cl10 tkW_17 rfl rfl kX10_now (by decide +kernel) (M_now _ _) ⟨rfl, rfl⟩ rfl (Nat.zero_le _) (fun _ h => absurd h List.not_mem_nil) ⟨Nat.le_trans (by omega) hf.1, Nat.le_trans (by omega) hf.2⟩ ?_
  rintro r a' o' ⟨rfl, rfl, rfl⟩
  refine wpl hC ⟨Nat.le_trans (by omega) hf.1, Nat.le_trans (by omega) hf.2⟩ tkW_17 [] 3 ?_
  refine Wx.lV (V' := moV) (g := fun m => mix _ m) (y := iX11_now) (avs := []) (rest := [_]) hC hN (loc_mo _) (Or.inr fun r m' o' hF => hF.2.2.symm) (wf_mo hij) mo40 tkW_17 rfl rfl kX11_now (by decide +kernel) (M_mnow _ _) ⟨rfl, rfl⟩ rfl (by show (1 : Nat) ≤ 4; decide) (fun _ h => absurd h List.not_mem_nil) ⟨Nat.le_trans (by omega) hf.1, Nat.le_trans (by omega) hf.2⟩ ?_
  rintro r m' o' ⟨rfl, rfl, rfl⟩
  refine wpl hC ⟨Nat.le_trans (by omega) hf.1, Nat.le_trans (by omega) hf.2⟩ tkW_17 [2287] 6 ?_
  exact ⟨fun _ => Wx.widen (k := cells + 11) (n := slots + 66) (by omega) (by omega) (Wx.pick [0, 1, 2, 3, 4] rfl (kk _ _ _ (FU_hold h 0))), fun hne => absurd (congrArg wr (call_now h)) hne⟩
def tbW_18 : CT := [(1627, .aload_n 1, 1628, 0, 0, 0, 0, 0, 0, 0), (1628, .aload_n 0, 1629, 0, 0, 0, 0, 0, 0, 0), (1629, .iload 4, 1631, 0, 0, 0, 0, 0, 0, 0), (1631, .iconst 1, 1632, 0, 0, 0, 0, 0, 0, 0), (1632, .iadd, 1633, 0, 0, 0, 0, 0, 0, 0), (1633, .iaload, 1634, 0, 0, 0, 0, 0, 0, 0), (1634, .aload_n 0, 1635, 0, 0, 0, 0, 0, 0, 0), (1635, .iload 4, 1637, 0, 0, 0, 0, 0, 0, 0), (1637, .iconst 2, 1638, 0, 0, 0, 0, 0, 0, 0), (1638, .iadd, 1639, 0, 0, 0, 0, 0, 0, 0), (1639, .iaload, 1640, 0, 0, 0, 0, 0, 0, 0), (1640, .aload_n 3, 1641, 0, 0, 0, 0, 0, 0, 0), (1641, .invokestatic 180, 1644, 0, 0, 0, 0, 162, 862, 0), (1644, .istore 5, 1646, 0, 0, 0, 0, 0, 0, 0), (1646, .aload_n 2, 1647, 0, 0, 0, 0, 0, 0, 0), (1647, .aload_n 0, 1648, 0, 0, 0, 0, 0, 0, 0), (1648, .iload 4, 1650, 0, 0, 0, 0, 0, 0, 0), (1650, .iconst 1, 1651, 0, 0, 0, 0, 0, 0, 0), (1651, .iadd, 1652, 0, 0, 0, 0, 0, 0, 0), (1652, .iaload, 1653, 0, 0, 0, 0, 0, 0, 0), (1653, .aload_n 0, 1654, 0, 0, 0, 0, 0, 0, 0), (1654, .iload 4, 1656, 0, 0, 0, 0, 0, 0, 0), (1656, .iconst 2, 1657, 0, 0, 0, 0, 0, 0, 0), (1657, .iadd, 1658, 0, 0, 0, 0, 0, 0, 0), (1658, .iaload, 1659, 0, 0, 0, 0, 0, 0, 0), (1659, .invokevirtual 182, 1662, 0, 0, 0, 0, 127, 1349, 0), (1662, .istore 6, 1664, 0, 0, 0, 0, 0, 0, 0), (1664, .aload_n 2, 1665, 0, 0, 0, 0, 0, 0, 0), (1665, .invokevirtual 116, 1668, 0, 0, 0, 0, 71, 1129, 0), (1668, .iload 5, 1670, 0, 0, 0, 0, 0, 0, 0), (1670, .if_icmp .eq 5, 1673, 1675, 1675, 0, 0, 0, 0, 0), (1673, .iconst 0, 1674, 0, 0, 0, 0, 0, 0, 0), (1674, .ireturn, 1675, 0, 0, 0, 0, 0, 0, 0), (1675, .iload 5, 1677, 0, 0, 0, 0, 0, 0, 0), (1677, .ifCond .ne 15, 1680, 1692, 1692, 0, 0, 0, 0, 0), (1680, .aload_n 3, 1681, 0, 0, 0, 0, 0, 0, 0), (1681, .iconst 0, 1682, 0, 0, 0, 0, 0, 0, 0), (1682, .laload, 1683, 0, 0, 0, 0, 0, 0, 0), (1683, .iload 6, 1685, 0, 0, 0, 0, 0, 0, 0), (1685, .i2l, 1686, 0, 0, 0, 0, 0, 0, 0), (1686, .lcmp, 1687, 0, 0, 0, 0, 0, 0, 0), (1687, .ifCond .eq 5, 1690, 1692, 1692, 0, 0, 0, 0, 0), (1690, .iconst 0, 1691, 0, 0, 0, 0, 0, 0, 0), (1691, .ireturn, 1692, 0, 0, 0, 0, 0, 0, 0), (1692, .goto 595, 1695, 2287, 2287, 0, 0, 0, 0, 0)]
theorem tkW_18 : tbW_18.all (cOK RL code) = true := by decide +kernel
set_option maxRecDepth 100000 in
set_option maxHeartbeats 400000 in
theorem law_18 (h0 : LC p l s m args meth c D ad A N xs) {i : Int} (i0 : 0 ≤ i) (i1 : i + 9 < N) (hf : cells + 11 ≤ room_1.cells ∧ slots + 66 ≤ room_1.slots) {a mo : Mm} {o : Int64} (h : FU a mo) (kk : ∀ a' m' o', FU a' m' → Wx p l e room_1 s m args below meth c (cells + 11) (slots + 66) Q lawV D ad A 7 2287 (LL i) [] (mix a' m') o') : Wx p l e room_1 s m args below meth c cells slots Q lawV D ad A 7 1627 (LL i) [] (mix a mo) o := by
  obtain ⟨hC, hN, hT, hR, hst, hX, hb, hN0⟩ := h0
  have hij := hC.2.2.2.2.2.2.2.2.1
  have hIA := h.2.2.2.2.2.2.2.1
  have hMV := FU_MV h
  have hIM := hMV.1
  have hIC := FU_IC h
  have hw26 := h.2.2.2.2.2.1
  have hw45 := h.2.2.2.2.2.2.1
  have hdat := FU_dat h
  refine wpl hC ⟨Nat.le_trans (by omega) hf.1, Nat.le_trans (by omega) hf.2⟩ tkW_18 [1628] 3 ?_
  refine Wx.reads' hC hX hb hN0 rfl rfl i0 law00 [1, 2] 1628 _ (by decide +kernel) (by (repeat' first | exact fun _ h => absurd h List.not_mem_nil | refine List.forall_mem_cons.mpr ⟨?_, ?_⟩) <;> omega) (pc' := 1640) (by decide +kernel) (S' := [xi (scr xs (i + 2)), xi (scr xs (i + 1)), xr 1 0]) rfl ?_
  have hrd : ∀ (k9 : Int) (a9 : Mm) (o9 : Int64) (c9 s9 : Nat), Wx p l e room_1 s m args below meth c c9 s9 Q lawV D ad A 7 1659 (lset (LL i) 5 (xi k9)) [xi (scr xs (i + 2)), xi (scr xs (i + 1)), xr 40 0] (mix a9 mo) o9 → Wx p l e room_1 s m args below meth c c9 s9 Q lawV D ad A 7 1647 (lset (LL i) 5 (xi k9)) [xr 40 0] (mix a9 mo) o9 := fun k9 a9 o9 c9 s9 h9 => by
    exact Wx.reads' hC hX hb hN0 rfl rfl i0 law00 [1, 2] 1647 _ (by decide +kernel) (by (repeat' first | exact fun _ h => absurd h List.not_mem_nil | refine List.forall_mem_cons.mpr ⟨?_, ?_⟩) <;> omega) (pc' := 1659) (by decide +kernel) (S' := [xi (scr xs (i + 2)), xi (scr xs (i + 1)), xr 40 0]) rfl h9
  have w1 := wr_scr xs (i + 1)
  have w2 := wr_scr xs (i + 2)
  generalize scr xs (i + 1) = p1 at w1 hrd ⊢
  generalize scr xs (i + 2) = p2 at w2 hrd ⊢
  refine wpl hC ⟨Nat.le_trans (by omega) hf.1, Nat.le_trans (by omega) hf.2⟩ tkW_18 [] 3 ?_
  have hc := call_going h p1 p2
  have hM := W_goingOn a o p1 p2 w1 w2 
  refine Wx.lW (y := iL_goingOn) (avs := [_, _, _, _]) (rest := []) hC hN hT hR hst tkW_18 rfl rfl rfl kL_goingOn (by decide +kernel) hM rfl (Nat.zero_le _) (by repeat' first | exact fun _ h => absurd h List.not_mem_nil | exact cl10 | exact cl35 | exact trivial | refine List.forall_mem_cons.mpr ⟨?_, ?_⟩) ⟨Nat.le_trans (by omega) hf.1, Nat.le_trans (by omega) hf.2⟩ ?_
  rintro r a' o' ⟨rfl, rfl, rfl⟩
  refine wpl hC ⟨Nat.le_trans (by omega) hf.1, Nat.le_trans (by omega) hf.2⟩ tkW_18 [1647] 4 ?_
  refine hrd _ _ _ _ _ ?_
  refine Wx.lV (V' := moV) (g := fun m => mix _ m) (y := iX11_goingOn) (avs := [_, _]) (rest := []) hC hN (loc_mo _) (Or.inr fun r m' o' hF => hF.2.2.symm) (wf_mo hij) mo40 tkW_18 rfl rfl kX11_goingOn (by decide +kernel) (M_mgoingOn p1 p2 _ _ w1 w2 ) ⟨rfl, rfl⟩ rfl (Nat.zero_le _) (by repeat' first | exact fun _ h => absurd h List.not_mem_nil | exact trivial | refine List.forall_mem_cons.mpr ⟨?_, ?_⟩) ⟨Nat.le_trans (by omega) hf.1, Nat.le_trans (by omega) hf.2⟩ ?_
  rintro r m' o' ⟨rfl, rfl, rfl⟩
  refine wpl hC ⟨Nat.le_trans (by omega) hf.1, Nat.le_trans (by omega) hf.2⟩ tkW_18 [] 4 ?_
  refine Wx.lV (V' := moV) (g := fun m => mix _ m) (y := iX11_thrown) (avs := []) (rest := []) hC hN (loc_mo _) (Or.inr fun r m' o' hF => hF.2.2.symm) (wf_mo hij) mo40 tkW_18 rfl rfl kX11_thrown (by decide +kernel) (M_thrown _ _) ⟨rfl, rfl⟩ rfl (Nat.zero_le _) (fun _ h => absurd h List.not_mem_nil) ⟨Nat.le_trans (by omega) hf.1, Nat.le_trans (by omega) hf.2⟩ ?_
  rintro r m' o' ⟨rfl, rfl, rfl⟩
  have hfu := fun (c9 : Option String) => md_read (Es := E0) (c := c9) h (by decide)
  refine wpl hC ⟨Nat.le_trans (by omega) hf.1, Nat.le_trans (by omega) hf.2⟩ tkW_18 [2287] 30 ?_
  refine ⟨fun _ => ⟨fun _ => Wx.widen (k := cells + 11) (n := slots + 66) (by omega) (by omega) (Wx.pick [0, 1, 2, 3, 4] rfl (kk _ _ _ (hfu _).1)), fun hk => ?_⟩, fun hne => absurd (congrArg wr ((hfu _).2)) hne⟩
  have hcn := cdX_0 (by decide) hk
  exact ⟨rfl, fun _ => Wx.widen (k := cells + 11) (n := slots + 66) (by omega) (by omega) (Wx.pick [0, 1, 2, 3, 4] rfl (kk _ _ _ (hfu _).1)), fun hne => absurd (cmp0 ((pif_t hcn).trans (congrArg Int32.toInt64 (congrArg I (hc hcn))))) hne⟩
def tbW_19 : CT := [(1695, .aload_n 1, 1696, 0, 0, 0, 0, 0, 0, 0), (1696, .invokevirtual 183, 1699, 0, 0, 0, 0, 53, 449, 0), (1699, .aload_n 2, 1700, 0, 0, 0, 0, 0, 0, 0), (1700, .invokevirtual 186, 1703, 0, 0, 0, 0, 128, 1353, 0), (1703, .if_icmp .eq 584, 1706, 2287, 2287, 0, 0, 0, 0, 0), (1706, .iconst 0, 1707, 0, 0, 0, 0, 0, 0, 0), (1707, .ireturn, 1708, 0, 0, 0, 0, 0, 0, 0)]
theorem tkW_19 : tbW_19.all (cOK RL code) = true := by decide +kernel
set_option maxRecDepth 100000 in
set_option maxHeartbeats 400000 in
theorem law_19 (h0 : LC p l s m args meth c D ad A N xs) {i : Int} (i0 : 0 ≤ i) (i1 : i + 9 < N) (hf : cells + 11 ≤ room_1.cells ∧ slots + 66 ≤ room_1.slots) {a mo : Mm} {o : Int64} (h : FU a mo) (kk : ∀ a' m' o', FU a' m' → Wx p l e room_1 s m args below meth c (cells + 11) (slots + 66) Q lawV D ad A 7 2287 (LL i) [] (mix a' m') o') : Wx p l e room_1 s m args below meth c cells slots Q lawV D ad A 7 1695 (LL i) [] (mix a mo) o := by
  obtain ⟨hC, hN, hT, hR, hst, hX, hb, hN0⟩ := h0
  have hij := hC.2.2.2.2.2.2.2.2.1
  refine wpl hC ⟨Nat.le_trans (by omega) hf.1, Nat.le_trans (by omega) hf.2⟩ tkW_19 [] 3 ?_
  refine Wx.lV (V' := clV) (g := fun a => mix a _) (y := iX10_waiting) (avs := []) (rest := []) hC hN (loc_cl _) (Or.inl fun i h => ⟨by decide, lawV_r h (by decide)⟩) (wf_cl hij) cl10 tkW_19 rfl rfl kX10_waiting (by decide +kernel) (M_waiting _ _) ⟨rfl, rfl⟩ rfl (Nat.zero_le _) (fun _ h => absurd h List.not_mem_nil) ⟨Nat.le_trans (by omega) hf.1, Nat.le_trans (by omega) hf.2⟩ ?_
  rintro r a' o' ⟨rfl, rfl, rfl⟩
  refine wpl hC ⟨Nat.le_trans (by omega) hf.1, Nat.le_trans (by omega) hf.2⟩ tkW_19 [] 3 ?_
  refine Wx.lV (V' := moV) (g := fun m => mix _ m) (y := iX11_waiting) (avs := []) (rest := [_]) hC hN (loc_mo _) (Or.inr fun r m' o' hF => hF.2.2.symm) (wf_mo hij) mo40 tkW_19 rfl rfl kX11_waiting (by decide +kernel) (M_mwaiting _ _) ⟨rfl, rfl⟩ rfl (by show (1 : Nat) ≤ 4; decide) (fun _ h => absurd h List.not_mem_nil) ⟨Nat.le_trans (by omega) hf.1, Nat.le_trans (by omega) hf.2⟩ ?_
  rintro r m' o' ⟨rfl, rfl, rfl⟩
  refine wpl hC ⟨Nat.le_trans (by omega) hf.1, Nat.le_trans (by omega) hf.2⟩ tkW_19 [2287] 6 ?_
  exact ⟨fun _ => Wx.widen (k := cells + 11) (n := slots + 66) (by omega) (by omega) (Wx.pick [0, 1, 2, 3, 4] rfl (kk _ _ _ (FU_hold h 0))), fun hne => absurd (congrArg wr (call_waiting h)) hne⟩
end CTX
