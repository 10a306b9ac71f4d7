/-! ===== the law, case by case, 2 ===== -/
section CTX
variable {p : Program} {l : Launch} {e : Env} {s : State} {m : MethodId} {args : Array Value} {below : List Frame} {meth : Method} {c : Code} {cells slots : Nat} {Q : State → Prop} {D : DD} {ad : Nat → Int → Nat} {A : Nat → Prop} {N : Nat} {xs : Nat → Int32}
def tbW_5 : CT := [(524, .aload_n 1, 525, 0, 0, 0, 0, 0, 0, 0), (525, .aload_n 0, 526, 0, 0, 0, 0, 0, 0, 0), (526, .iload 4, 528, 0, 0, 0, 0, 0, 0, 0), (528, .iconst 1, 529, 0, 0, 0, 0, 0, 0, 0), (529, .iadd, 530, 0, 0, 0, 0, 0, 0, 0), (530, .iaload, 531, 0, 0, 0, 0, 0, 0, 0), (531, .aload_n 0, 532, 0, 0, 0, 0, 0, 0, 0), (532, .iload 4, 534, 0, 0, 0, 0, 0, 0, 0), (534, .iconst 2, 535, 0, 0, 0, 0, 0, 0, 0), (535, .iadd, 536, 0, 0, 0, 0, 0, 0, 0), (536, .iaload, 537, 0, 0, 0, 0, 0, 0, 0), (537, .aload_n 0, 538, 0, 0, 0, 0, 0, 0, 0), (538, .iload 4, 540, 0, 0, 0, 0, 0, 0, 0), (540, .iconst 3, 541, 0, 0, 0, 0, 0, 0, 0), (541, .iadd, 542, 0, 0, 0, 0, 0, 0, 0), (542, .iaload, 543, 0, 0, 0, 0, 0, 0, 0), (543, .aload_n 3, 544, 0, 0, 0, 0, 0, 0, 0), (544, .invokestatic 136, 547, 0, 0, 0, 0, 150, 615, 0), (547, .istore 5, 549, 0, 0, 0, 0, 0, 0, 0), (549, .aload_n 2, 550, 0, 0, 0, 0, 0, 0, 0), (550, .aload_n 0, 551, 0, 0, 0, 0, 0, 0, 0), (551, .iload 4, 553, 0, 0, 0, 0, 0, 0, 0), (553, .iconst 1, 554, 0, 0, 0, 0, 0, 0, 0), (554, .iadd, 555, 0, 0, 0, 0, 0, 0, 0), (555, .iaload, 556, 0, 0, 0, 0, 0, 0, 0), (556, .aload_n 0, 557, 0, 0, 0, 0, 0, 0, 0), (557, .iload 4, 559, 0, 0, 0, 0, 0, 0, 0), (559, .iconst 2, 560, 0, 0, 0, 0, 0, 0, 0), (560, .iadd, 561, 0, 0, 0, 0, 0, 0, 0), (561, .iaload, 562, 0, 0, 0, 0, 0, 0, 0), (562, .aload_n 0, 563, 0, 0, 0, 0, 0, 0, 0), (563, .iload 4, 565, 0, 0, 0, 0, 0, 0, 0), (565, .iconst 3, 566, 0, 0, 0, 0, 0, 0, 0), (566, .iadd, 567, 0, 0, 0, 0, 0, 0, 0), (567, .iaload, 568, 0, 0, 0, 0, 0, 0, 0), (568, .invokevirtual 138, 571, 0, 0, 0, 0, 90, 1181, 0), (571, .istore 6, 573, 0, 0, 0, 0, 0, 0, 0), (573, .aload_n 2, 574, 0, 0, 0, 0, 0, 0, 0), (574, .invokevirtual 116, 577, 0, 0, 0, 0, 71, 1129, 0), (577, .iload 5, 579, 0, 0, 0, 0, 0, 0, 0), (579, .if_icmp .eq 5, 582, 584, 584, 0, 0, 0, 0, 0), (582, .iconst 0, 583, 0, 0, 0, 0, 0, 0, 0), (583, .ireturn, 584, 0, 0, 0, 0, 0, 0, 0), (584, .iload 5, 586, 0, 0, 0, 0, 0, 0, 0), (586, .ifCond .ne 22, 589, 608, 608, 0, 0, 0, 0, 0), (589, .aload_n 3, 590, 0, 0, 0, 0, 0, 0, 0), (590, .iconst 0, 591, 0, 0, 0, 0, 0, 0, 0), (591, .laload, 592, 0, 0, 0, 0, 0, 0, 0), (592, .iload 6, 594, 0, 0, 0, 0, 0, 0, 0), (594, .ifCond .eq 7, 597, 601, 601, 0, 0, 0, 0, 0), (597, .lconst 1, 598, 0, 0, 0, 0, 0, 0, 0), (598, .goto 4, 601, 602, 602, 0, 0, 0, 0, 0), (601, .lconst 0, 602, 0, 0, 0, 0, 0, 0, 0), (602, .lcmp, 603, 0, 0, 0, 0, 0, 0, 0), (603, .ifCond .eq 5, 606, 608, 608, 0, 0, 0, 0, 0), (606, .iconst 0, 607, 0, 0, 0, 0, 0, 0, 0), (607, .ireturn, 608, 0, 0, 0, 0, 0, 0, 0), (608, .goto 1679, 611, 2287, 2287, 0, 0, 0, 0, 0)]
theorem tkW_5 : tbW_5.all (cOK RL code) = true := by decide +kernel
set_option maxRecDepth 100000 in
set_option maxHeartbeats 400000 in
theorem law_5 (h0 : LC p l s m args meth c D ad A N xs) {i : Int} (i0 : 0 ≤ i) (i1 : i + 9 < N) (hf : cells + 11 ≤ room_1.cells ∧ slots + 66 ≤ room_1.slots) {a mo : Mm} {o : Int64} (h : FU a mo) (kk : ∀ a' m' o', FU a' m' → Wx p l e room_1 s m args below meth c (cells + 11) (slots + 66) Q lawV D ad A 7 2287 (LL i) [] (mix a' m') o') : Wx p l e room_1 s m args below meth c cells slots Q lawV D ad A 7 524 (LL i) [] (mix a mo) o := by
  obtain ⟨hC, hN, hT, hR, hst, hX, hb, hN0⟩ := h0
  have hij := hC.2.2.2.2.2.2.2.2.1
  have hIA := h.2.2.2.2.2.2.2.1
  have hMV := FU_MV h
  have hIM := hMV.1
  have hIC := FU_IC h
  have hw26 := h.2.2.2.2.2.1
  have hw45 := h.2.2.2.2.2.2.1
  have hdat := FU_dat h
  refine wpl hC ⟨Nat.le_trans (by omega) hf.1, Nat.le_trans (by omega) hf.2⟩ tkW_5 [525] 3 ?_
  refine Wx.reads' hC hX hb hN0 rfl rfl i0 law00 [1, 2, 3] 525 _ (by decide +kernel) (by (repeat' first | exact fun _ h => absurd h List.not_mem_nil | refine List.forall_mem_cons.mpr ⟨?_, ?_⟩) <;> omega) (pc' := 543) (by decide +kernel) (S' := [xi (scr xs (i + 3)), xi (scr xs (i + 2)), xi (scr xs (i + 1)), xr 1 0]) rfl ?_
  have hrd : ∀ (k9 : Int) (a9 : Mm) (o9 : Int64) (c9 s9 : Nat), Wx p l e room_1 s m args below meth c c9 s9 Q lawV D ad A 7 568 (lset (LL i) 5 (xi k9)) [xi (scr xs (i + 3)), xi (scr xs (i + 2)), xi (scr xs (i + 1)), xr 40 0] (mix a9 mo) o9 → Wx p l e room_1 s m args below meth c c9 s9 Q lawV D ad A 7 550 (lset (LL i) 5 (xi k9)) [xr 40 0] (mix a9 mo) o9 := fun k9 a9 o9 c9 s9 h9 => by
    exact Wx.reads' hC hX hb hN0 rfl rfl i0 law00 [1, 2, 3] 550 _ (by decide +kernel) (by (repeat' first | exact fun _ h => absurd h List.not_mem_nil | refine List.forall_mem_cons.mpr ⟨?_, ?_⟩) <;> omega) (pc' := 568) (by decide +kernel) (S' := [xi (scr xs (i + 3)), xi (scr xs (i + 2)), xi (scr xs (i + 1)), xr 40 0]) rfl h9
  have w1 := wr_scr xs (i + 1)
  have w2 := wr_scr xs (i + 2)
  have w3 := wr_scr xs (i + 3)
  generalize scr xs (i + 1) = p1 at w1 hrd ⊢
  generalize scr xs (i + 2) = p2 at w2 hrd ⊢
  generalize scr xs (i + 3) = p3 at w3 hrd ⊢
  refine wpl hC ⟨Nat.le_trans (by omega) hf.1, Nat.le_trans (by omega) hf.2⟩ tkW_5 [] 3 ?_
  have hc := call_cal h p1 p2 p3
  have hM := W_calibrate a o p1 p2 p3 w1 w2 w3 
  refine Wx.lW (y := iL_calibrate) (avs := [_, _, _, _, _]) (rest := []) hC hN hT hR hst tkW_5 rfl rfl rfl kL_calibrate (by decide +kernel) hM rfl (Nat.zero_le _) (by repeat' first | exact fun _ h => absurd h List.not_mem_nil | exact cl10 | exact cl35 | exact trivial | refine List.forall_mem_cons.mpr ⟨?_, ?_⟩) ⟨Nat.le_trans (by omega) hf.1, Nat.le_trans (by omega) hf.2⟩ ?_
  rintro r a' o' ⟨rfl, rfl, rfl⟩
  refine wpl hC ⟨Nat.le_trans (by omega) hf.1, Nat.le_trans (by omega) hf.2⟩ tkW_5 [550] 4 ?_
  refine hrd _ _ _ _ _ ?_
  refine Wx.lV (V' := moV) (g := fun m => mix _ m) (y := iX11_calibrate) (avs := [_, _, _]) (rest := []) hC hN (loc_mo _) (Or.inr fun r m' o' hF => hF.2.2.symm) (wf_mo hij) mo40 tkW_5 rfl rfl kX11_calibrate (by decide +kernel) (M_mcalibrate p1 p2 p3 _ _ w1 w2 w3 ) ⟨rfl, rfl⟩ rfl (Nat.zero_le _) (by repeat' first | exact fun _ h => absurd h List.not_mem_nil | exact trivial | refine List.forall_mem_cons.mpr ⟨?_, ?_⟩) ⟨Nat.le_trans (by omega) hf.1, Nat.le_trans (by omega) hf.2⟩ ?_
  rintro r m' o' ⟨rfl, rfl, rfl⟩
  refine wpl hC ⟨Nat.le_trans (by omega) hf.1, Nat.le_trans (by omega) hf.2⟩ tkW_5 [] 4 ?_
  refine Wx.lV (V' := moV) (g := fun m => mix _ m) (y := iX11_thrown) (avs := []) (rest := []) hC hN (loc_mo _) (Or.inr fun r m' o' hF => hF.2.2.symm) (wf_mo hij) mo40 tkW_5 rfl rfl kX11_thrown (by decide +kernel) (M_thrown _ _) ⟨rfl, rfl⟩ rfl (Nat.zero_le _) (fun _ h => absurd h List.not_mem_nil) ⟨Nat.le_trans (by omega) hf.1, Nat.le_trans (by omega) hf.2⟩ ?_
  rintro r m' o' ⟨rfl, rfl, rfl⟩
  refine wpl hC ⟨Nat.le_trans (by omega) hf.1, Nat.le_trans (by omega) hf.2⟩ tkW_5 [2287] 30 ?_
  refine ⟨fun _ => ⟨fun _ => Wx.widen (k := cells + 11) (n := slots + 66) (by omega) (by omega) (Wx.pick [0, 1, 2, 3, 4] rfl (kk _ _ _ hc.1.1)), fun hk => ?_⟩, fun hne => absurd (congrArg wr (hc.1.2)) hne⟩
  have hcn := cdX_0 (by decide) hk
  have h01 := fun (P : Prop) => bzw P
  exact ⟨rfl, fun hb0 => ⟨fun _ => Wx.widen (k := cells + 11) (n := slots + 66) (by omega) (by omega) (Wx.pick [0, 1, 2, 3, 4] rfl (kk _ _ _ hc.1.1)), fun hne => absurd (cmp0 ((pif_t hcn).trans (i64_0 ((congrArg wr (hc.2 hcn)).trans hb0)).symm)) hne⟩, fun hb0 => ⟨fun _ => Wx.widen (k := cells + 11) (n := slots + 66) (by omega) (by omega) (Wx.pick [0, 1, 2, 3, 4] rfl (kk _ _ _ hc.1.1)), fun hne => absurd (cmp0 ((pif_t hcn).trans (i64_1 ((h01 _).resolve_left fun q => hb0 ((congrArg wr (hc.2 hcn)).symm.trans q))).symm)) hne⟩⟩
def tbW_6 : CT := [(611, .aload_n 1, 612, 0, 0, 0, 0, 0, 0, 0), (612, .aload_n 0, 613, 0, 0, 0, 0, 0, 0, 0), (613, .iload 4, 615, 0, 0, 0, 0, 0, 0, 0), (615, .iconst 1, 616, 0, 0, 0, 0, 0, 0, 0), (616, .iadd, 617, 0, 0, 0, 0, 0, 0, 0), (617, .iaload, 618, 0, 0, 0, 0, 0, 0, 0), (618, .aload_n 0, 619, 0, 0, 0, 0, 0, 0, 0), (619, .iload 4, 621, 0, 0, 0, 0, 0, 0, 0), (621, .iconst 2, 622, 0, 0, 0, 0, 0, 0, 0), (622, .iadd, 623, 0, 0, 0, 0, 0, 0, 0), (623, .iaload, 624, 0, 0, 0, 0, 0, 0, 0), (624, .aload_n 0, 625, 0, 0, 0, 0, 0, 0, 0), (625, .iload 4, 627, 0, 0, 0, 0, 0, 0, 0), (627, .iconst 3, 628, 0, 0, 0, 0, 0, 0, 0), (628, .iadd, 629, 0, 0, 0, 0, 0, 0, 0), (629, .iaload, 630, 0, 0, 0, 0, 0, 0, 0), (630, .aload_n 0, 631, 0, 0, 0, 0, 0, 0, 0), (631, .iload 4, 633, 0, 0, 0, 0, 0, 0, 0), (633, .iconst 4, 634, 0, 0, 0, 0, 0, 0, 0), (634, .iadd, 635, 0, 0, 0, 0, 0, 0, 0), (635, .iaload, 636, 0, 0, 0, 0, 0, 0, 0), (636, .aload_n 0, 637, 0, 0, 0, 0, 0, 0, 0), (637, .iload 4, 639, 0, 0, 0, 0, 0, 0, 0), (639, .iconst 5, 640, 0, 0, 0, 0, 0, 0, 0), (640, .iadd, 641, 0, 0, 0, 0, 0, 0, 0), (641, .iaload, 642, 0, 0, 0, 0, 0, 0, 0), (642, .aload_n 3, 643, 0, 0, 0, 0, 0, 0, 0), (643, .invokestatic 139, 646, 0, 0, 0, 0, 151, 622, 0), (646, .istore 5, 648, 0, 0, 0, 0, 0, 0, 0), (648, .aload_n 2, 649, 0, 0, 0, 0, 0, 0, 0), (649, .aload_n 0, 650, 0, 0, 0, 0, 0, 0, 0), (650, .iload 4, 652, 0, 0, 0, 0, 0, 0, 0), (652, .iconst 1, 653, 0, 0, 0, 0, 0, 0, 0), (653, .iadd, 654, 0, 0, 0, 0, 0, 0, 0), (654, .iaload, 655, 0, 0, 0, 0, 0, 0, 0), (655, .aload_n 0, 656, 0, 0, 0, 0, 0, 0, 0), (656, .iload 4, 658, 0, 0, 0, 0, 0, 0, 0), (658, .iconst 2, 659, 0, 0, 0, 0, 0, 0, 0), (659, .iadd, 660, 0, 0, 0, 0, 0, 0, 0), (660, .iaload, 661, 0, 0, 0, 0, 0, 0, 0), (661, .aload_n 0, 662, 0, 0, 0, 0, 0, 0, 0), (662, .iload 4, 664, 0, 0, 0, 0, 0, 0, 0), (664, .iconst 3, 665, 0, 0, 0, 0, 0, 0, 0), (665, .iadd, 666, 0, 0, 0, 0, 0, 0, 0), (666, .iaload, 667, 0, 0, 0, 0, 0, 0, 0), (667, .aload_n 0, 668, 0, 0, 0, 0, 0, 0, 0), (668, .iload 4, 670, 0, 0, 0, 0, 0, 0, 0), (670, .iconst 4, 671, 0, 0, 0, 0, 0, 0, 0), (671, .iadd, 672, 0, 0, 0, 0, 0, 0, 0), (672, .iaload, 673, 0, 0, 0, 0, 0, 0, 0), (673, .aload_n 0, 674, 0, 0, 0, 0, 0, 0, 0), (674, .iload 4, 676, 0, 0, 0, 0, 0, 0, 0), (676, .iconst 5, 677, 0, 0, 0, 0, 0, 0, 0), (677, .iadd, 678, 0, 0, 0, 0, 0, 0, 0), (678, .iaload, 679, 0, 0, 0, 0, 0, 0, 0), (679, .invokevirtual 142, 682, 0, 0, 0, 0, 93, 1185, 0), (682, .istore 6, 684, 0, 0, 0, 0, 0, 0, 0), (684, .aload_n 2, 685, 0, 0, 0, 0, 0, 0, 0), (685, .invokevirtual 116, 688, 0, 0, 0, 0, 71, 1129, 0), (688, .iload 5, 690, 0, 0, 0, 0, 0, 0, 0), (690, .if_icmp .eq 5, 693, 695, 695, 0, 0, 0, 0, 0), (693, .iconst 0, 694, 0, 0, 0, 0, 0, 0, 0), (694, .ireturn, 695, 0, 0, 0, 0, 0, 0, 0), (695, .iload 5, 697, 0, 0, 0, 0, 0, 0, 0), (697, .ifCond .ne 15, 700, 712, 712, 0, 0, 0, 0, 0), (700, .aload_n 3, 701, 0, 0, 0, 0, 0, 0, 0), (701, .iconst 0, 702, 0, 0, 0, 0, 0, 0, 0), (702, .laload, 703, 0, 0, 0, 0, 0, 0, 0), (703, .iload 6, 705, 0, 0, 0, 0, 0, 0, 0), (705, .i2l, 706, 0, 0, 0, 0, 0, 0, 0), (706, .lcmp, 707, 0, 0, 0, 0, 0, 0, 0), (707, .ifCond .eq 5, 710, 712, 712, 0, 0, 0, 0, 0), (710, .iconst 0, 711, 0, 0, 0, 0, 0, 0, 0), (711, .ireturn, 712, 0, 0, 0, 0, 0, 0, 0), (712, .goto 1575, 715, 2287, 2287, 0, 0, 0, 0, 0)]
theorem tkW_6 : tbW_6.all (cOK RL code) = true := by decide +kernel
set_option maxRecDepth 100000 in
set_option maxHeartbeats 400000 in
theorem law_6 (h0 : LC p l s m args meth c D ad A N xs) {i : Int} (i0 : 0 ≤ i) (i1 : i + 9 < N) (hf : cells + 11 ≤ room_1.cells ∧ slots + 66 ≤ room_1.slots) {a mo : Mm} {o : Int64} (h : FU a mo) (kk : ∀ a' m' o', FU a' m' → Wx p l e room_1 s m args below meth c (cells + 11) (slots + 66) Q lawV D ad A 7 2287 (LL i) [] (mix a' m') o') : Wx p l e room_1 s m args below meth c cells slots Q lawV D ad A 7 611 (LL i) [] (mix a mo) o := by
  obtain ⟨hC, hN, hT, hR, hst, hX, hb, hN0⟩ := h0
  have hij := hC.2.2.2.2.2.2.2.2.1
  have hIA := h.2.2.2.2.2.2.2.1
  have hMV := FU_MV h
  have hIM := hMV.1
  have hIC := FU_IC h
  have hw26 := h.2.2.2.2.2.1
  have hw45 := h.2.2.2.2.2.2.1
  have hdat := FU_dat h
  refine wpl hC ⟨Nat.le_trans (by omega) hf.1, Nat.le_trans (by omega) hf.2⟩ tkW_6 [612] 3 ?_
  refine Wx.reads' hC hX hb hN0 rfl rfl i0 law00 [1, 2, 3, 4, 5] 612 _ (by decide +kernel) (by (repeat' first | exact fun _ h => absurd h List.not_mem_nil | refine List.forall_mem_cons.mpr ⟨?_, ?_⟩) <;> omega) (pc' := 642) (by decide +kernel) (S' := [xi (scr xs (i + 5)), xi (scr xs (i + 4)), xi (scr xs (i + 3)), xi (scr xs (i + 2)), xi (scr xs (i + 1)), xr 1 0]) rfl ?_
  have hrd : ∀ (k9 : Int) (a9 : Mm) (o9 : Int64) (c9 s9 : Nat), Wx p l e room_1 s m args below meth c c9 s9 Q lawV D ad A 7 679 (lset (LL i) 5 (xi k9)) [xi (scr xs (i + 5)), xi (scr xs (i + 4)), xi (scr xs (i + 3)), xi (scr xs (i + 2)), xi (scr xs (i + 1)), xr 40 0] (mix a9 mo) o9 → Wx p l e room_1 s m args below meth c c9 s9 Q lawV D ad A 7 649 (lset (LL i) 5 (xi k9)) [xr 40 0] (mix a9 mo) o9 := fun k9 a9 o9 c9 s9 h9 => by
    exact Wx.reads' hC hX hb hN0 rfl rfl i0 law00 [1, 2, 3, 4, 5] 649 _ (by decide +kernel) (by (repeat' first | exact fun _ h => absurd h List.not_mem_nil | refine List.forall_mem_cons.mpr ⟨?_, ?_⟩) <;> omega) (pc' := 679) (by decide +kernel) (S' := [xi (scr xs (i + 5)), xi (scr xs (i + 4)), xi (scr xs (i + 3)), xi (scr xs (i + 2)), xi (scr xs (i + 1)), xr 40 0]) rfl h9
  have w1 := wr_scr xs (i + 1)
  have w2 := wr_scr xs (i + 2)
  have w3 := wr_scr xs (i + 3)
  have w4 := wr_scr xs (i + 4)
  have w5 := wr_scr xs (i + 5)
  generalize scr xs (i + 1) = p1 at w1 hrd ⊢
  generalize scr xs (i + 2) = p2 at w2 hrd ⊢
  generalize scr xs (i + 3) = p3 at w3 hrd ⊢
  generalize scr xs (i + 4) = p4 at w4 hrd ⊢
  generalize scr xs (i + 5) = p5 at w5 hrd ⊢
  refine wpl hC ⟨Nat.le_trans (by omega) hf.1, Nat.le_trans (by omega) hf.2⟩ tkW_6 [] 3 ?_
  have hc := call_height h p1 p2 p3 p4 p5
  have hM := W_height a o p1 p2 p3 p4 p5 w1 w2 w3 w4 w5 
  refine Wx.lW (y := iL_height) (avs := [_, _, _, _, _, _, _]) (rest := []) hC hN hT hR hst tkW_6 rfl rfl rfl kL_height (by decide +kernel) hM rfl (Nat.zero_le _) (by repeat' first | exact fun _ h => absurd h List.not_mem_nil | exact cl10 | exact cl35 | exact trivial | refine List.forall_mem_cons.mpr ⟨?_, ?_⟩) ⟨Nat.le_trans (by omega) hf.1, Nat.le_trans (by omega) hf.2⟩ ?_
  rintro r a' o' ⟨rfl, rfl, rfl⟩
  refine wpl hC ⟨Nat.le_trans (by omega) hf.1, Nat.le_trans (by omega) hf.2⟩ tkW_6 [649] 4 ?_
  refine hrd _ _ _ _ _ ?_
  refine Wx.lV (V' := moV) (g := fun m => mix _ m) (y := iX11_height) (avs := [_, _, _, _, _]) (rest := []) hC hN (loc_mo _) (Or.inr fun r m' o' hF => hF.2.2.symm) (wf_mo hij) mo40 tkW_6 rfl rfl kX11_height (by decide +kernel) (M_mheight p1 p2 p3 p4 p5 _ _ w1 w2 w3 w4 w5 ) ⟨rfl, rfl⟩ rfl (Nat.zero_le _) (by repeat' first | exact fun _ h => absurd h List.not_mem_nil | exact trivial | refine List.forall_mem_cons.mpr ⟨?_, ?_⟩) ⟨Nat.le_trans (by omega) hf.1, Nat.le_trans (by omega) hf.2⟩ ?_
  rintro r m' o' ⟨rfl, rfl, rfl⟩
  refine wpl hC ⟨Nat.le_trans (by omega) hf.1, Nat.le_trans (by omega) hf.2⟩ tkW_6 [] 4 ?_
  refine Wx.lV (V' := moV) (g := fun m => mix _ m) (y := iX11_thrown) (avs := []) (rest := []) hC hN (loc_mo _) (Or.inr fun r m' o' hF => hF.2.2.symm) (wf_mo hij) mo40 tkW_6 rfl rfl kX11_thrown (by decide +kernel) (M_thrown _ _) ⟨rfl, rfl⟩ rfl (Nat.zero_le _) (fun _ h => absurd h List.not_mem_nil) ⟨Nat.le_trans (by omega) hf.1, Nat.le_trans (by omega) hf.2⟩ ?_
  rintro r m' o' ⟨rfl, rfl, rfl⟩
  have hfu := fun (c9 : Option String) => md_read (Es := E0) (c := c9) h (by decide)
  refine wpl hC ⟨Nat.le_trans (by omega) hf.1, Nat.le_trans (by omega) hf.2⟩ tkW_6 [2287] 30 ?_
  refine ⟨fun _ => ⟨fun _ => Wx.widen (k := cells + 11) (n := slots + 66) (by omega) (by omega) (Wx.pick [0, 1, 2, 3, 4] rfl (kk _ _ _ (hfu _).1)), fun hk => ?_⟩, fun hne => absurd (congrArg wr ((hfu _).2)) hne⟩
  have hcn := cdX_0 (by decide) hk
  exact ⟨rfl, fun _ => Wx.widen (k := cells + 11) (n := slots + 66) (by omega) (by omega) (Wx.pick [0, 1, 2, 3, 4] rfl (kk _ _ _ (hfu _).1)), fun hne => absurd (cmp0 ((pif_t hcn).trans (congrArg Int32.toInt64 (I_of (hc hcn))))) hne⟩
def tbW_7 : CT := [(715, .aload_n 1, 716, 0, 0, 0, 0, 0, 0, 0), (716, .aload_n 0, 717, 0, 0, 0, 0, 0, 0, 0), (717, .iload 4, 719, 0, 0, 0, 0, 0, 0, 0), (719, .iconst 1, 720, 0, 0, 0, 0, 0, 0, 0), (720, .iadd, 721, 0, 0, 0, 0, 0, 0, 0), (721, .iaload, 722, 0, 0, 0, 0, 0, 0, 0), (722, .aload_n 3, 723, 0, 0, 0, 0, 0, 0, 0), (723, .invokestatic 143, 726, 0, 0, 0, 0, 152, 650, 0), (726, .istore 5, 728, 0, 0, 0, 0, 0, 0, 0), (728, .aload_n 2, 729, 0, 0, 0, 0, 0, 0, 0), (729, .aload_n 0, 730, 0, 0, 0, 0, 0, 0, 0), (730, .iload 4, 732, 0, 0, 0, 0, 0, 0, 0), (732, .iconst 1, 733, 0, 0, 0, 0, 0, 0, 0), (733, .iadd, 734, 0, 0, 0, 0, 0, 0, 0), (734, .iaload, 735, 0, 0, 0, 0, 0, 0, 0), (735, .invokevirtual 145, 738, 0, 0, 0, 0, 95, 1205, 0), (738, .istore 6, 740, 0, 0, 0, 0, 0, 0, 0), (740, .aload_n 2, 741, 0, 0, 0, 0, 0, 0, 0), (741, .invokevirtual 116, 744, 0, 0, 0, 0, 71, 1129, 0), (744, .iload 5, 746, 0, 0, 0, 0, 0, 0, 0), (746, .if_icmp .eq 5, 749, 751, 751, 0, 0, 0, 0, 0), (749, .iconst 0, 750, 0, 0, 0, 0, 0, 0, 0), (750, .ireturn, 751, 0, 0, 0, 0, 0, 0, 0), (751, .iload 5, 753, 0, 0, 0, 0, 0, 0, 0), (753, .ifCond .ne 15, 756, 768, 768, 0, 0, 0, 0, 0), (756, .aload_n 3, 757, 0, 0, 0, 0, 0, 0, 0), (757, .iconst 0, 758, 0, 0, 0, 0, 0, 0, 0), (758, .laload, 759, 0, 0, 0, 0, 0, 0, 0), (759, .iload 6, 761, 0, 0, 0, 0, 0, 0, 0), (761, .i2l, 762, 0, 0, 0, 0, 0, 0, 0), (762, .lcmp, 763, 0, 0, 0, 0, 0, 0, 0), (763, .ifCond .eq 5, 766, 768, 768, 0, 0, 0, 0, 0), (766, .iconst 0, 767, 0, 0, 0, 0, 0, 0, 0), (767, .ireturn, 768, 0, 0, 0, 0, 0, 0, 0), (768, .goto 1519, 771, 2287, 2287, 0, 0, 0, 0, 0)]
theorem tkW_7 : tbW_7.all (cOK RL code) = true := by decide +kernel
set_option maxRecDepth 100000 in
set_option maxHeartbeats 400000 in
theorem law_7 (h0 : LC p l s m args meth c D ad A N xs) {i : Int} (i0 : 0 ≤ i) (i1 : i + 9 < N) (hf : cells + 11 ≤ room_1.cells ∧ slots + 66 ≤ room_1.slots) {a mo : Mm} {o : Int64} (h : FU a mo) (kk : ∀ a' m' o', FU a' m' → Wx p l e room_1 s m args below meth c (cells + 11) (slots + 66) Q lawV D ad A 7 2287 (LL i) [] (mix a' m') o') : Wx p l e room_1 s m args below meth c cells slots Q lawV D ad A 7 715 (LL i) [] (mix a mo) o := by
  obtain ⟨hC, hN, hT, hR, hst, hX, hb, hN0⟩ := h0
  have hij := hC.2.2.2.2.2.2.2.2.1
  have hIA := h.2.2.2.2.2.2.2.1
  have hMV := FU_MV h
  have hIM := hMV.1
  have hIC := FU_IC h
  have hw26 := h.2.2.2.2.2.1
  have hw45 := h.2.2.2.2.2.2.1
  have hdat := FU_dat h
  refine wpl hC ⟨Nat.le_trans (by omega) hf.1, Nat.le_trans (by omega) hf.2⟩ tkW_7 [716] 3 ?_
  refine Wx.reads' hC hX hb hN0 rfl rfl i0 law00 [1] 716 _ (by decide +kernel) (by (repeat' first | exact fun _ h => absurd h List.not_mem_nil | refine List.forall_mem_cons.mpr ⟨?_, ?_⟩) <;> omega) (pc' := 722) (by decide +kernel) (S' := [xi (scr xs (i + 1)), xr 1 0]) rfl ?_
  have hrd : ∀ (k9 : Int) (a9 : Mm) (o9 : Int64) (c9 s9 : Nat), Wx p l e room_1 s m args below meth c c9 s9 Q lawV D ad A 7 735 (lset (LL i) 5 (xi k9)) [xi (scr xs (i + 1)), xr 40 0] (mix a9 mo) o9 → Wx p l e room_1 s m args below meth c c9 s9 Q lawV D ad A 7 729 (lset (LL i) 5 (xi k9)) [xr 40 0] (mix a9 mo) o9 := fun k9 a9 o9 c9 s9 h9 => by
    exact Wx.reads' hC hX hb hN0 rfl rfl i0 law00 [1] 729 _ (by decide +kernel) (by (repeat' first | exact fun _ h => absurd h List.not_mem_nil | refine List.forall_mem_cons.mpr ⟨?_, ?_⟩) <;> omega) (pc' := 735) (by decide +kernel) (S' := [xi (scr xs (i + 1)), xr 40 0]) rfl h9
  have w1 := wr_scr xs (i + 1)
  generalize scr xs (i + 1) = p1 at w1 hrd ⊢
  refine wpl hC ⟨Nat.le_trans (by omega) hf.1, Nat.le_trans (by omega) hf.2⟩ tkW_7 [] 3 ?_
  have hc := call_light h p1
  have hM := W_light a o p1 w1 
  refine Wx.lW (y := iL_light) (avs := [_, _, _]) (rest := []) hC hN hT hR hst tkW_7 rfl rfl rfl kL_light (by decide +kernel) hM rfl (Nat.zero_le _) (by repeat' first | exact fun _ h => absurd h List.not_mem_nil | exact cl10 | exact cl35 | exact trivial | refine List.forall_mem_cons.mpr ⟨?_, ?_⟩) ⟨Nat.le_trans (by omega) hf.1, Nat.le_trans (by omega) hf.2⟩ ?_
  rintro r a' o' ⟨rfl, rfl, rfl⟩
  refine wpl hC ⟨Nat.le_trans (by omega) hf.1, Nat.le_trans (by omega) hf.2⟩ tkW_7 [729] 4 ?_
  refine hrd _ _ _ _ _ ?_
  refine Wx.lV (V' := moV) (g := fun m => mix _ m) (y := iX11_light) (avs := [_]) (rest := []) hC hN (loc_mo _) (Or.inr fun r m' o' hF => hF.2.2.symm) (wf_mo hij) mo40 tkW_7 rfl rfl kX11_light (by decide +kernel) (M_mlight p1 _ _ w1 ) ⟨rfl, rfl⟩ rfl (Nat.zero_le _) (by repeat' first | exact fun _ h => absurd h List.not_mem_nil | exact trivial | refine List.forall_mem_cons.mpr ⟨?_, ?_⟩) ⟨Nat.le_trans (by omega) hf.1, Nat.le_trans (by omega) hf.2⟩ ?_
  rintro r m' o' ⟨rfl, rfl, rfl⟩
  refine wpl hC ⟨Nat.le_trans (by omega) hf.1, Nat.le_trans (by omega) hf.2⟩ tkW_7 [] 4 ?_
  refine Wx.lV (V' := moV) (g := fun m => mix _ m) (y := iX11_thrown) (avs := []) (rest := []) hC hN (loc_mo _) (Or.inr fun r m' o' hF => hF.2.2.symm) (wf_mo hij) mo40 tkW_7 rfl rfl kX11_thrown (by decide +kernel) (M_thrown _ _) ⟨rfl, rfl⟩ rfl (Nat.zero_le _) (fun _ h => absurd h List.not_mem_nil) ⟨Nat.le_trans (by omega) hf.1, Nat.le_trans (by omega) hf.2⟩ ?_
  rintro r m' o' ⟨rfl, rfl, rfl⟩
  have hfu := fun (c9 : Option String) => md_read (Es := E0) (c := c9) h (by decide)
  refine wpl hC ⟨Nat.le_trans (by omega) hf.1, Nat.le_trans (by omega) hf.2⟩ tkW_7 [2287] 30 ?_
  refine ⟨fun _ => ⟨fun _ => Wx.widen (k := cells + 11) (n := slots + 66) (by omega) (by omega) (Wx.pick [0, 1, 2, 3, 4] rfl (kk _ _ _ (hfu _).1)), fun hk => ?_⟩, fun hne => absurd (congrArg wr ((hfu _).2)) hne⟩
  have hcn := cdX_0 (by decide) hk
  exact ⟨rfl, fun _ => Wx.widen (k := cells + 11) (n := slots + 66) (by omega) (by omega) (Wx.pick [0, 1, 2, 3, 4] rfl (kk _ _ _ (hfu _).1)), fun hne => absurd (cmp0 ((pif_t hcn).trans (congrArg Int32.toInt64 (congrArg I (hc hcn))))) hne⟩
def tbW_8 : CT := [(771, .aload_n 1, 772, 0, 0, 0, 0, 0, 0, 0), (772, .aload_n 0, 773, 0, 0, 0, 0, 0, 0, 0), (773, .iload 4, 775, 0, 0, 0, 0, 0, 0, 0), (775, .iconst 1, 776, 0, 0, 0, 0, 0, 0, 0), (776, .iadd, 777, 0, 0, 0, 0, 0, 0, 0), (777, .iaload, 778, 0, 0, 0, 0, 0, 0, 0), (778, .aload_n 0, 779, 0, 0, 0, 0, 0, 0, 0), (779, .iload 4, 781, 0, 0, 0, 0, 0, 0, 0), (781, .iconst 2, 782, 0, 0, 0, 0, 0, 0, 0), (782, .iadd, 783, 0, 0, 0, 0, 0, 0, 0), (783, .iaload, 784, 0, 0, 0, 0, 0, 0, 0), (784, .aload_n 0, 785, 0, 0, 0, 0, 0, 0, 0), (785, .iload 4, 787, 0, 0, 0, 0, 0, 0, 0), (787, .iconst 3, 788, 0, 0, 0, 0, 0, 0, 0), (788, .iadd, 789, 0, 0, 0, 0, 0, 0, 0), (789, .iaload, 790, 0, 0, 0, 0, 0, 0, 0), (790, .aload_n 3, 791, 0, 0, 0, 0, 0, 0, 0), (791, .invokestatic 146, 794, 0, 0, 0, 0, 153, 662, 0), (794, .istore 5, 796, 0, 0, 0, 0, 0, 0, 0), (796, .aload_n 2, 797, 0, 0, 0, 0, 0, 0, 0), (797, .aload_n 0, 798, 0, 0, 0, 0, 0, 0, 0), (798, .iload 4, 800, 0, 0, 0, 0, 0, 0, 0), (800, .iconst 1, 801, 0, 0, 0, 0, 0, 0, 0), (801, .iadd, 802, 0, 0, 0, 0, 0, 0, 0), (802, .iaload, 803, 0, 0, 0, 0, 0, 0, 0), (803, .aload_n 0, 804, 0, 0, 0, 0, 0, 0, 0), (804, .iload 4, 806, 0, 0, 0, 0, 0, 0, 0), (806, .iconst 2, 807, 0, 0, 0, 0, 0, 0, 0), (807, .iadd, 808, 0, 0, 0, 0, 0, 0, 0), (808, .iaload, 809, 0, 0, 0, 0, 0, 0, 0), (809, .aload_n 0, 810, 0, 0, 0, 0, 0, 0, 0), (810, .iload 4, 812, 0, 0, 0, 0, 0, 0, 0), (812, .iconst 3, 813, 0, 0, 0, 0, 0, 0, 0), (813, .iadd, 814, 0, 0, 0, 0, 0, 0, 0), (814, .iaload, 815, 0, 0, 0, 0, 0, 0, 0), (815, .invokevirtual 148, 818, 0, 0, 0, 0, 97, 1213, 0), (818, .istore 6, 820, 0, 0, 0, 0, 0, 0, 0), (820, .aload_n 2, 821, 0, 0, 0, 0, 0, 0, 0), (821, .invokevirtual 116, 824, 0, 0, 0, 0, 71, 1129, 0), (824, .iload 5, 826, 0, 0, 0, 0, 0, 0, 0), (826, .if_icmp .eq 5, 829, 831, 831, 0, 0, 0, 0, 0), (829, .iconst 0, 830, 0, 0, 0, 0, 0, 0, 0), (830, .ireturn, 831, 0, 0, 0, 0, 0, 0, 0), (831, .iload 5, 833, 0, 0, 0, 0, 0, 0, 0), (833, .ifCond .ne 15, 836, 848, 848, 0, 0, 0, 0, 0), (836, .aload_n 3, 837, 0, 0, 0, 0, 0, 0, 0), (837, .iconst 0, 838, 0, 0, 0, 0, 0, 0, 0), (838, .laload, 839, 0, 0, 0, 0, 0, 0, 0), (839, .iload 6, 841, 0, 0, 0, 0, 0, 0, 0), (841, .i2l, 842, 0, 0, 0, 0, 0, 0, 0), (842, .lcmp, 843, 0, 0, 0, 0, 0, 0, 0), (843, .ifCond .eq 5, 846, 848, 848, 0, 0, 0, 0, 0), (846, .iconst 0, 847, 0, 0, 0, 0, 0, 0, 0), (847, .ireturn, 848, 0, 0, 0, 0, 0, 0, 0), (848, .goto 1439, 851, 2287, 2287, 0, 0, 0, 0, 0)]
theorem tkW_8 : tbW_8.all (cOK RL code) = true := by decide +kernel
set_option maxRecDepth 100000 in
set_option maxHeartbeats 400000 in
theorem law_8 (h0 : LC p l s m args meth c D ad A N xs) {i : Int} (i0 : 0 ≤ i) (i1 : i + 9 < N) (hf : cells + 11 ≤ room_1.cells ∧ slots + 66 ≤ room_1.slots) {a mo : Mm} {o : Int64} (h : FU a mo) (kk : ∀ a' m' o', FU a' m' → Wx p l e room_1 s m args below meth c (cells + 11) (slots + 66) Q lawV D ad A 7 2287 (LL i) [] (mix a' m') o') : Wx p l e room_1 s m args below meth c cells slots Q lawV D ad A 7 771 (LL i) [] (mix a mo) o := by
  obtain ⟨hC, hN, hT, hR, hst, hX, hb, hN0⟩ := h0
  have hij := hC.2.2.2.2.2.2.2.2.1
  have hIA := h.2.2.2.2.2.2.2.1
  have hMV := FU_MV h
  have hIM := hMV.1
  have hIC := FU_IC h
  have hw26 := h.2.2.2.2.2.1
  have hw45 := h.2.2.2.2.2.2.1
  have hdat := FU_dat h
  refine wpl hC ⟨Nat.le_trans (by omega) hf.1, Nat.le_trans (by omega) hf.2⟩ tkW_8 [772] 3 ?_
  refine Wx.reads' hC hX hb hN0 rfl rfl i0 law00 [1, 2, 3] 772 _ (by decide +kernel) (by (repeat' first | exact fun _ h => absurd h List.not_mem_nil | refine List.forall_mem_cons.mpr ⟨?_, ?_⟩) <;> omega) (pc' := 790) (by decide +kernel) (S' := [xi (scr xs (i + 3)), xi (scr xs (i + 2)), xi (scr xs (i + 1)), xr 1 0]) rfl ?_
  have hrd : ∀ (k9 : Int) (a9 : Mm) (o9 : Int64) (c9 s9 : Nat), Wx p l e room_1 s m args below meth c c9 s9 Q lawV D ad A 7 815 (lset (LL i) 5 (xi k9)) [xi (scr xs (i + 3)), xi (scr xs (i + 2)), xi (scr xs (i + 1)), xr 40 0] (mix a9 mo) o9 → Wx p l e room_1 s m args below meth c c9 s9 Q lawV D ad A 7 797 (lset (LL i) 5 (xi k9)) [xr 40 0] (mix a9 mo) o9 := fun k9 a9 o9 c9 s9 h9 => by
    exact Wx.reads' hC hX hb hN0 rfl rfl i0 law00 [1, 2, 3] 797 _ (by decide +kernel) (by (repeat' first | exact fun _ h => absurd h List.not_mem_nil | refine List.forall_mem_cons.mpr ⟨?_, ?_⟩) <;> omega) (pc' := 815) (by decide +kernel) (S' := [xi (scr xs (i + 3)), xi (scr xs (i + 2)), xi (scr xs (i + 1)), xr 40 0]) rfl h9
  have w1 := wr_scr xs (i + 1)
  have w2 := wr_scr xs (i + 2)
  have w3 := wr_scr xs (i + 3)
  generalize scr xs (i + 1) = p1 at w1 hrd ⊢
  generalize scr xs (i + 2) = p2 at w2 hrd ⊢
  generalize scr xs (i + 3) = p3 at w3 hrd ⊢
  refine wpl hC ⟨Nat.le_trans (by omega) hf.1, Nat.le_trans (by omega) hf.2⟩ tkW_8 [] 3 ?_
  have hc := call_seeing h p1 p2 p3
  have hM := W_seeing a o p1 p2 p3 w1 w2 w3 
  refine Wx.lW (y := iL_seeing) (avs := [_, _, _, _, _]) (rest := []) hC hN hT hR hst tkW_8 rfl rfl rfl kL_seeing (by decide +kernel) hM rfl (Nat.zero_le _) (by repeat' first | exact fun _ h => absurd h List.not_mem_nil | exact cl10 | exact cl35 | exact trivial | refine List.forall_mem_cons.mpr ⟨?_, ?_⟩) ⟨Nat.le_trans (by omega) hf.1, Nat.le_trans (by omega) hf.2⟩ ?_
  rintro r a' o' ⟨rfl, rfl, rfl⟩
  refine wpl hC ⟨Nat.le_trans (by omega) hf.1, Nat.le_trans (by omega) hf.2⟩ tkW_8 [797] 4 ?_
  refine hrd _ _ _ _ _ ?_
  refine Wx.lV (V' := moV) (g := fun m => mix _ m) (y := iX11_seeing) (avs := [_, _, _]) (rest := []) hC hN (loc_mo _) (Or.inr fun r m' o' hF => hF.2.2.symm) (wf_mo hij) mo40 tkW_8 rfl rfl kX11_seeing (by decide +kernel) (M_mseeing p1 p2 p3 _ _ w1 w2 w3 ) ⟨rfl, rfl⟩ rfl (Nat.zero_le _) (by repeat' first | exact fun _ h => absurd h List.not_mem_nil | exact trivial | refine List.forall_mem_cons.mpr ⟨?_, ?_⟩) ⟨Nat.le_trans (by omega) hf.1, Nat.le_trans (by omega) hf.2⟩ ?_
  rintro r m' o' ⟨rfl, rfl, rfl⟩
  refine wpl hC ⟨Nat.le_trans (by omega) hf.1, Nat.le_trans (by omega) hf.2⟩ tkW_8 [] 4 ?_
  refine Wx.lV (V' := moV) (g := fun m => mix _ m) (y := iX11_thrown) (avs := []) (rest := []) hC hN (loc_mo _) (Or.inr fun r m' o' hF => hF.2.2.symm) (wf_mo hij) mo40 tkW_8 rfl rfl kX11_thrown (by decide +kernel) (M_thrown _ _) ⟨rfl, rfl⟩ rfl (Nat.zero_le _) (fun _ h => absurd h List.not_mem_nil) ⟨Nat.le_trans (by omega) hf.1, Nat.le_trans (by omega) hf.2⟩ ?_
  rintro r m' o' ⟨rfl, rfl, rfl⟩
  have hfu := fun (c9 : Option String) => md_read (Es := E0) (c := c9) h (by decide)
  refine wpl hC ⟨Nat.le_trans (by omega) hf.1, Nat.le_trans (by omega) hf.2⟩ tkW_8 [2287] 30 ?_
  refine ⟨fun _ => ⟨fun _ => Wx.widen (k := cells + 11) (n := slots + 66) (by omega) (by omega) (Wx.pick [0, 1, 2, 3, 4] rfl (kk _ _ _ (hfu _).1)), fun hk => ?_⟩, fun hne => absurd (congrArg wr ((hfu _).2)) hne⟩
  have hcn := cdX_0 (by decide) hk
  exact ⟨rfl, fun _ => Wx.widen (k := cells + 11) (n := slots + 66) (by omega) (by omega) (Wx.pick [0, 1, 2, 3, 4] rfl (kk _ _ _ (hfu _).1)), fun hne => absurd (cmp0 ((pif_t hcn).trans (congrArg Int32.toInt64 (congrArg I (hc hcn))))) hne⟩
def tbW_9 : CT := [(851, .aload_n 1, 852, 0, 0, 0, 0, 0, 0, 0), (852, .aload_n 0, 853, 0, 0, 0, 0, 0, 0, 0), (853, .iload 4, 855, 0, 0, 0, 0, 0, 0, 0), (855, .iconst 1, 856, 0, 0, 0, 0, 0, 0, 0), (856, .iadd, 857, 0, 0, 0, 0, 0, 0, 0), (857, .iaload, 858, 0, 0, 0, 0, 0, 0, 0), (858, .aload_n 0, 859, 0, 0, 0, 0, 0, 0, 0), (859, .iload 4, 861, 0, 0, 0, 0, 0, 0, 0), (861, .iconst 2, 862, 0, 0, 0, 0, 0, 0, 0), (862, .iadd, 863, 0, 0, 0, 0, 0, 0, 0), (863, .iaload, 864, 0, 0, 0, 0, 0, 0, 0), (864, .aload_n 3, 865, 0, 0, 0, 0, 0, 0, 0), (865, .invokestatic 149, 868, 0, 0, 0, 0, 154, 673, 0), (868, .istore 5, 870, 0, 0, 0, 0, 0, 0, 0), (870, .aload_n 2, 871, 0, 0, 0, 0, 0, 0, 0), (871, .aload_n 0, 872, 0, 0, 0, 0, 0, 0, 0), (872, .iload 4, 874, 0, 0, 0, 0, 0, 0, 0), (874, .iconst 1, 875, 0, 0, 0, 0, 0, 0, 0), (875, .iadd, 876, 0, 0, 0, 0, 0, 0, 0), (876, .iaload, 877, 0, 0, 0, 0, 0, 0, 0), (877, .aload_n 0, 878, 0, 0, 0, 0, 0, 0, 0), (878, .iload 4, 880, 0, 0, 0, 0, 0, 0, 0), (880, .iconst 2, 881, 0, 0, 0, 0, 0, 0, 0), (881, .iadd, 882, 0, 0, 0, 0, 0, 0, 0), (882, .iaload, 883, 0, 0, 0, 0, 0, 0, 0), (883, .invokevirtual 152, 886, 0, 0, 0, 0, 98, 1221, 0), (886, .istore 6, 888, 0, 0, 0, 0, 0, 0, 0), (888, .aload_n 2, 889, 0, 0, 0, 0, 0, 0, 0), (889, .invokevirtual 116, 892, 0, 0, 0, 0, 71, 1129, 0), (892, .iload 5, 894, 0, 0, 0, 0, 0, 0, 0), (894, .if_icmp .eq 5, 897, 899, 899, 0, 0, 0, 0, 0), (897, .iconst 0, 898, 0, 0, 0, 0, 0, 0, 0), (898, .ireturn, 899, 0, 0, 0, 0, 0, 0, 0), (899, .iload 5, 901, 0, 0, 0, 0, 0, 0, 0), (901, .ifCond .ne 15, 904, 916, 916, 0, 0, 0, 0, 0), (904, .aload_n 3, 905, 0, 0, 0, 0, 0, 0, 0), (905, .iconst 0, 906, 0, 0, 0, 0, 0, 0, 0), (906, .laload, 907, 0, 0, 0, 0, 0, 0, 0), (907, .iload 6, 909, 0, 0, 0, 0, 0, 0, 0), (909, .i2l, 910, 0, 0, 0, 0, 0, 0, 0), (910, .lcmp, 911, 0, 0, 0, 0, 0, 0, 0), (911, .ifCond .eq 5, 914, 916, 916, 0, 0, 0, 0, 0), (914, .iconst 0, 915, 0, 0, 0, 0, 0, 0, 0), (915, .ireturn, 916, 0, 0, 0, 0, 0, 0, 0), (916, .goto 1371, 919, 2287, 2287, 0, 0, 0, 0, 0)]
theorem tkW_9 : tbW_9.all (cOK RL code) = true := by decide +kernel
set_option maxRecDepth 100000 in
set_option maxHeartbeats 400000 in
theorem law_9 (h0 : LC p l s m args meth c D ad A N xs) {i : Int} (i0 : 0 ≤ i) (i1 : i + 9 < N) (hf : cells + 11 ≤ room_1.cells ∧ slots + 66 ≤ room_1.slots) {a mo : Mm} {o : Int64} (h : FU a mo) (kk : ∀ a' m' o', FU a' m' → Wx p l e room_1 s m args below meth c (cells + 11) (slots + 66) Q lawV D ad A 7 2287 (LL i) [] (mix a' m') o') : Wx p l e room_1 s m args below meth c cells slots Q lawV D ad A 7 851 (LL i) [] (mix a mo) o := by
  obtain ⟨hC, hN, hT, hR, hst, hX, hb, hN0⟩ := h0
  have hij := hC.2.2.2.2.2.2.2.2.1
  have hIA := h.2.2.2.2.2.2.2.1
  have hMV := FU_MV h
  have hIM := hMV.1
  have hIC := FU_IC h
  have hw26 := h.2.2.2.2.2.1
  have hw45 := h.2.2.2.2.2.2.1
  have hdat := FU_dat h
  refine wpl hC ⟨Nat.le_trans (by omega) hf.1, Nat.le_trans (by omega) hf.2⟩ tkW_9 [852] 3 ?_
  refine Wx.reads' hC hX hb hN0 rfl rfl i0 law00 [1, 2] 852 _ (by decide +kernel) (by (repeat' first | exact fun _ h => absurd h List.not_mem_nil | refine List.forall_mem_cons.mpr ⟨?_, ?_⟩) <;> omega) (pc' := 864) (by decide +kernel) (S' := [xi (scr xs (i + 2)), xi (scr xs (i + 1)), xr 1 0]) rfl ?_
  have hrd : ∀ (k9 : Int) (a9 : Mm) (o9 : Int64) (c9 s9 : Nat), Wx p l e room_1 s m args below meth c c9 s9 Q lawV D ad A 7 883 (lset (LL i) 5 (xi k9)) [xi (scr xs (i + 2)), xi (scr xs (i + 1)), xr 40 0] (mix a9 mo) o9 → Wx p l e room_1 s m args below meth c c9 s9 Q lawV D ad A 7 871 (lset (LL i) 5 (xi k9)) [xr 40 0] (mix a9 mo) o9 := fun k9 a9 o9 c9 s9 h9 => by
    exact Wx.reads' hC hX hb hN0 rfl rfl i0 law00 [1, 2] 871 _ (by decide +kernel) (by (repeat' first | exact fun _ h => absurd h List.not_mem_nil | refine List.forall_mem_cons.mpr ⟨?_, ?_⟩) <;> omega) (pc' := 883) (by decide +kernel) (S' := [xi (scr xs (i + 2)), xi (scr xs (i + 1)), xr 40 0]) rfl h9
  have w1 := wr_scr xs (i + 1)
  have w2 := wr_scr xs (i + 2)
  generalize scr xs (i + 1) = p1 at w1 hrd ⊢
  generalize scr xs (i + 2) = p2 at w2 hrd ⊢
  refine wpl hC ⟨Nat.le_trans (by omega) hf.1, Nat.le_trans (by omega) hf.2⟩ tkW_9 [] 3 ?_
  have hc := call_share h p1 p2
  have hM := W_share a o p1 p2 w1 w2 
  refine Wx.lW (y := iL_share) (avs := [_, _, _, _]) (rest := []) hC hN hT hR hst tkW_9 rfl rfl rfl kL_share (by decide +kernel) hM rfl (Nat.zero_le _) (by repeat' first | exact fun _ h => absurd h List.not_mem_nil | exact cl10 | exact cl35 | exact trivial | refine List.forall_mem_cons.mpr ⟨?_, ?_⟩) ⟨Nat.le_trans (by omega) hf.1, Nat.le_trans (by omega) hf.2⟩ ?_
  rintro r a' o' ⟨rfl, rfl, rfl⟩
  refine wpl hC ⟨Nat.le_trans (by omega) hf.1, Nat.le_trans (by omega) hf.2⟩ tkW_9 [871] 4 ?_
  refine hrd _ _ _ _ _ ?_
  refine Wx.lV (V' := moV) (g := fun m => mix _ m) (y := iX11_share) (avs := [_, _]) (rest := []) hC hN (loc_mo _) (Or.inr fun r m' o' hF => hF.2.2.symm) (wf_mo hij) mo40 tkW_9 rfl rfl kX11_share (by decide +kernel) (M_mshare p1 p2 _ _ w1 w2 ) ⟨rfl, rfl⟩ rfl (Nat.zero_le _) (by repeat' first | exact fun _ h => absurd h List.not_mem_nil | exact trivial | refine List.forall_mem_cons.mpr ⟨?_, ?_⟩) ⟨Nat.le_trans (by omega) hf.1, Nat.le_trans (by omega) hf.2⟩ ?_
  rintro r m' o' ⟨rfl, rfl, rfl⟩
  refine wpl hC ⟨Nat.le_trans (by omega) hf.1, Nat.le_trans (by omega) hf.2⟩ tkW_9 [] 4 ?_
  refine Wx.lV (V' := moV) (g := fun m => mix _ m) (y := iX11_thrown) (avs := []) (rest := []) hC hN (loc_mo _) (Or.inr fun r m' o' hF => hF.2.2.symm) (wf_mo hij) mo40 tkW_9 rfl rfl kX11_thrown (by decide +kernel) (M_thrown _ _) ⟨rfl, rfl⟩ rfl (Nat.zero_le _) (fun _ h => absurd h List.not_mem_nil) ⟨Nat.le_trans (by omega) hf.1, Nat.le_trans (by omega) hf.2⟩ ?_
  rintro r m' o' ⟨rfl, rfl, rfl⟩
  refine wpl hC ⟨Nat.le_trans (by omega) hf.1, Nat.le_trans (by omega) hf.2⟩ tkW_9 [2287] 30 ?_
  refine ⟨fun _ => ⟨fun _ => Wx.widen (k := cells + 11) (n := slots + 66) (by omega) (by omega) (Wx.pick [0, 1, 2, 3, 4] rfl (kk _ _ _ hc.1.1)), fun hk => ?_⟩, fun hne => absurd (congrArg wr (hc.1.2)) hne⟩
  have hcn := cdX_0 (by decide) hk
  exact ⟨rfl, fun _ => Wx.widen (k := cells + 11) (n := slots + 66) (by omega) (by omega) (Wx.pick [0, 1, 2, 3, 4] rfl (kk _ _ _ hc.1.1)), fun hne => absurd (cmp0 ((pif_t hcn).trans (congrArg Int32.toInt64 (congrArg I (hc.2 hcn))))) hne⟩
end CTX
