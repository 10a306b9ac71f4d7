/-! ===== the law, case by case, 3 ===== -/
section CTX
variable {p : Program} {l : Launch} {e : Env} {s : State} {m : MethodId} {args : Array Value} {below : List Frame} {meth : Method} {c : Code} {cells slots : Nat} {Q : State → Prop} {D : DD} {ad : Nat → Int → Nat} {A : Nat → Prop} {N : Nat} {xs : Nat → Int32}
def tbW_10 : CT := [(919, .aload_n 1, 920, 0, 0, 0, 0, 0, 0, 0), (920, .aload_n 0, 921, 0, 0, 0, 0, 0, 0, 0), (921, .iload 4, 923, 0, 0, 0, 0, 0, 0, 0), (923, .iconst 1, 924, 0, 0, 0, 0, 0, 0, 0), (924, .iadd, 925, 0, 0, 0, 0, 0, 0, 0), (925, .iaload, 926, 0, 0, 0, 0, 0, 0, 0), (926, .aload_n 0, 927, 0, 0, 0, 0, 0, 0, 0), (927, .iload 4, 929, 0, 0, 0, 0, 0, 0, 0), (929, .iconst 2, 930, 0, 0, 0, 0, 0, 0, 0), (930, .iadd, 931, 0, 0, 0, 0, 0, 0, 0), (931, .iaload, 932, 0, 0, 0, 0, 0, 0, 0), (932, .aload_n 0, 933, 0, 0, 0, 0, 0, 0, 0), (933, .iload 4, 935, 0, 0, 0, 0, 0, 0, 0), (935, .iconst 3, 936, 0, 0, 0, 0, 0, 0, 0), (936, .iadd, 937, 0, 0, 0, 0, 0, 0, 0), (937, .iaload, 938, 0, 0, 0, 0, 0, 0, 0), (938, .aload_n 0, 939, 0, 0, 0, 0, 0, 0, 0), (939, .iload 4, 941, 0, 0, 0, 0, 0, 0, 0), (941, .iconst 4, 942, 0, 0, 0, 0, 0, 0, 0), (942, .iadd, 943, 0, 0, 0, 0, 0, 0, 0), (943, .iaload, 944, 0, 0, 0, 0, 0, 0, 0), (944, .aload_n 3, 945, 0, 0, 0, 0, 0, 0, 0), (945, .invokestatic 153, 948, 0, 0, 0, 0, 155, 680, 0), (948, .istore 5, 950, 0, 0, 0, 0, 0, 0, 0), (950, .aload_n 2, 951, 0, 0, 0, 0, 0, 0, 0), (951, .aload_n 0, 952, 0, 0, 0, 0, 0, 0, 0), (952, .iload 4, 954, 0, 0, 0, 0, 0, 0, 0), (954, .iconst 1, 955, 0, 0, 0, 0, 0, 0, 0), (955, .iadd, 956, 0, 0, 0, 0, 0, 0, 0), (956, .iaload, 957, 0, 0, 0, 0, 0, 0, 0), (957, .aload_n 0, 958, 0, 0, 0, 0, 0, 0, 0), (958, .iload 4, 960, 0, 0, 0, 0, 0, 0, 0), (960, .iconst 2, 961, 0, 0, 0, 0, 0, 0, 0), (961, .iadd, 962, 0, 0, 0, 0, 0, 0, 0), (962, .iaload, 963, 0, 0, 0, 0, 0, 0, 0), (963, .aload_n 0, 964, 0, 0, 0, 0, 0, 0, 0), (964, .iload 4, 966, 0, 0, 0, 0, 0, 0, 0), (966, .iconst 3, 967, 0, 0, 0, 0, 0, 0, 0), (967, .iadd, 968, 0, 0, 0, 0, 0, 0, 0), (968, .iaload, 969, 0, 0, 0, 0, 0, 0, 0), (969, .aload_n 0, 970, 0, 0, 0, 0, 0, 0, 0), (970, .iload 4, 972, 0, 0, 0, 0, 0, 0, 0), (972, .iconst 4, 973, 0, 0, 0, 0, 0, 0, 0), (973, .iadd, 974, 0, 0, 0, 0, 0, 0, 0), (974, .iaload, 975, 0, 0, 0, 0, 0, 0, 0), (975, .invokevirtual 156, 978, 0, 0, 0, 0, 99, 1229, 0), (978, .istore 6, 980, 0, 0, 0, 0, 0, 0, 0), (980, .aload_n 2, 981, 0, 0, 0, 0, 0, 0, 0), (981, .invokevirtual 116, 984, 0, 0, 0, 0, 71, 1129, 0), (984, .iload 5, 986, 0, 0, 0, 0, 0, 0, 0), (986, .if_icmp .eq 5, 989, 991, 991, 0, 0, 0, 0, 0), (989, .iconst 0, 990, 0, 0, 0, 0, 0, 0, 0), (990, .ireturn, 991, 0, 0, 0, 0, 0, 0, 0), (991, .iload 5, 993, 0, 0, 0, 0, 0, 0, 0), (993, .ifCond .ne 15, 996, 1008, 1008, 0, 0, 0, 0, 0), (996, .aload_n 3, 997, 0, 0, 0, 0, 0, 0, 0), (997, .iconst 0, 998, 0, 0, 0, 0, 0, 0, 0), (998, .laload, 999, 0, 0, 0, 0, 0, 0, 0), (999, .iload 6, 1001, 0, 0, 0, 0, 0, 0, 0), (1001, .i2l, 1002, 0, 0, 0, 0, 0, 0, 0), (1002, .lcmp, 1003, 0, 0, 0, 0, 0, 0, 0), (1003, .ifCond .eq 5, 1006, 1008, 1008, 0, 0, 0, 0, 0), (1006, .iconst 0, 1007, 0, 0, 0, 0, 0, 0, 0), (1007, .ireturn, 1008, 0, 0, 0, 0, 0, 0, 0), (1008, .goto 1279, 1011, 2287, 2287, 0, 0, 0, 0, 0)]
theorem tkW_10 : tbW_10.all (cOK RL code) = true := by decide +kernel
set_option maxRecDepth 100000 in
set_option maxHeartbeats 400000 in
theorem law_10 (h0 : LC p l s m args meth c D ad A N xs) {i : Int} (i0 : 0 ≤ i) (i1 : i + 9 < N) (hf : cells + 11 ≤ room_1.cells ∧ slots + 66 ≤ room_1.slots) {a mo : Mm} {o : Int64} (h : FU a mo) (kk : ∀ a' m' o', FU a' m' → Wx p l e room_1 s m args below meth c (cells + 11) (slots + 66) Q lawV D ad A 7 2287 (LL i) [] (mix a' m') o') : Wx p l e room_1 s m args below meth c cells slots Q lawV D ad A 7 919 (LL i) [] (mix a mo) o := by
  obtain ⟨hC, hN, hT, hR, hst, hX, hb, hN0⟩ := h0
  have hij := hC.2.2.2.2.2.2.2.2.1
  have hIA := h.2.2.2.2.2.2.2.1
  have hMV := FU_MV h
  have hIM := hMV.1
  have hIC := FU_IC h
  have hw26 := h.2.2.2.2.2.1
  have hw45 := h.2.2.2.2.2.2.1
  have hdat := FU_dat h
  refine wpl hC ⟨Nat.le_trans (by omega) hf.1, Nat.le_trans (by omega) hf.2⟩ tkW_10 [920] 3 ?_
  refine Wx.reads' hC hX hb hN0 rfl rfl i0 law00 [1, 2, 3, 4] 920 _ (by decide +kernel) (by (repeat' first | exact fun _ h => absurd h List.not_mem_nil | refine List.forall_mem_cons.mpr ⟨?_, ?_⟩) <;> omega) (pc' := 944) (by decide +kernel) (S' := [xi (scr xs (i + 4)), xi (scr xs (i + 3)), xi (scr xs (i + 2)), xi (scr xs (i + 1)), xr 1 0]) rfl ?_
  have hrd : ∀ (k9 : Int) (a9 : Mm) (o9 : Int64) (c9 s9 : Nat), Wx p l e room_1 s m args below meth c c9 s9 Q lawV D ad A 7 975 (lset (LL i) 5 (xi k9)) [xi (scr xs (i + 4)), xi (scr xs (i + 3)), xi (scr xs (i + 2)), xi (scr xs (i + 1)), xr 40 0] (mix a9 mo) o9 → Wx p l e room_1 s m args below meth c c9 s9 Q lawV D ad A 7 951 (lset (LL i) 5 (xi k9)) [xr 40 0] (mix a9 mo) o9 := fun k9 a9 o9 c9 s9 h9 => by
    exact Wx.reads' hC hX hb hN0 rfl rfl i0 law00 [1, 2, 3, 4] 951 _ (by decide +kernel) (by (repeat' first | exact fun _ h => absurd h List.not_mem_nil | refine List.forall_mem_cons.mpr ⟨?_, ?_⟩) <;> omega) (pc' := 975) (by decide +kernel) (S' := [xi (scr xs (i + 4)), xi (scr xs (i + 3)), xi (scr xs (i + 2)), xi (scr xs (i + 1)), xr 40 0]) rfl h9
  have w1 := wr_scr xs (i + 1)
  have w2 := wr_scr xs (i + 2)
  have w3 := wr_scr xs (i + 3)
  have w4 := wr_scr xs (i + 4)
  generalize scr xs (i + 1) = p1 at w1 hrd ⊢
  generalize scr xs (i + 2) = p2 at w2 hrd ⊢
  generalize scr xs (i + 3) = p3 at w3 hrd ⊢
  generalize scr xs (i + 4) = p4 at w4 hrd ⊢
  refine wpl hC ⟨Nat.le_trans (by omega) hf.1, Nat.le_trans (by omega) hf.2⟩ tkW_10 [] 3 ?_
  have hc := call_prop h p1 p2 p3 p4
  have hM := W_proposal a o p1 p2 p3 p4 w1 w2 w3 w4 hIA
  rw [hc.1] at hM
  refine Wx.lW (y := iL_proposal) (avs := [_, _, _, _, _, _]) (rest := []) hC hN hT hR hst tkW_10 rfl rfl rfl kL_proposal (by decide +kernel) hM rfl (Nat.zero_le _) (by repeat' first | exact fun _ h => absurd h List.not_mem_nil | exact cl10 | exact cl35 | exact trivial | refine List.forall_mem_cons.mpr ⟨?_, ?_⟩) ⟨Nat.le_trans (by omega) hf.1, Nat.le_trans (by omega) hf.2⟩ ?_
  rintro r a' o' ⟨rfl, rfl, rfl⟩
  refine wpl hC ⟨Nat.le_trans (by omega) hf.1, Nat.le_trans (by omega) hf.2⟩ tkW_10 [951] 4 ?_
  refine hrd _ _ _ _ _ ?_
  refine Wx.lV (V' := moV) (g := fun m => mix _ m) (y := iX11_proposal) (avs := [_, _, _, _]) (rest := []) hC hN (loc_mo _) (Or.inr fun r m' o' hF => hF.2.2.symm) (wf_mo hij) mo40 tkW_10 rfl rfl kX11_proposal (by decide +kernel) (M_mproposal p1 p2 p3 p4 _ _ w1 w2 w3 w4 hIM.1.1 hIM.1.2) ⟨rfl, rfl⟩ rfl (Nat.zero_le _) (by repeat' first | exact fun _ h => absurd h List.not_mem_nil | exact trivial | refine List.forall_mem_cons.mpr ⟨?_, ?_⟩) ⟨Nat.le_trans (by omega) hf.1, Nat.le_trans (by omega) hf.2⟩ ?_
  rintro r m' o' ⟨rfl, rfl, rfl⟩
  refine wpl hC ⟨Nat.le_trans (by omega) hf.1, Nat.le_trans (by omega) hf.2⟩ tkW_10 [] 4 ?_
  refine Wx.lV (V' := moV) (g := fun m => mix _ m) (y := iX11_thrown) (avs := []) (rest := []) hC hN (loc_mo _) (Or.inr fun r m' o' hF => hF.2.2.symm) (wf_mo hij) mo40 tkW_10 rfl rfl kX11_thrown (by decide +kernel) (M_thrown _ _) ⟨rfl, rfl⟩ rfl (Nat.zero_le _) (fun _ h => absurd h List.not_mem_nil) ⟨Nat.le_trans (by omega) hf.1, Nat.le_trans (by omega) hf.2⟩ ?_
  rintro r m' o' ⟨rfl, rfl, rfl⟩
  refine wpl hC ⟨Nat.le_trans (by omega) hf.1, Nat.le_trans (by omega) hf.2⟩ tkW_10 [2287] 30 ?_
  refine ⟨fun _ => ⟨fun _ => Wx.widen (k := cells + 11) (n := slots + 66) (by omega) (by omega) (Wx.pick [0, 1, 2, 3, 4] rfl (kk _ _ _ hc.2.1.1)), fun hk => ?_⟩, fun hne => absurd (congrArg wr (hc.2.1.2)) hne⟩
  have hcn := cdX_0 (by decide) hk
  exact ⟨rfl, fun _ => Wx.widen (k := cells + 11) (n := slots + 66) (by omega) (by omega) (Wx.pick [0, 1, 2, 3, 4] rfl (kk _ _ _ hc.2.1.1)), fun hne => absurd (cmp0 ((pif_t hcn).trans (congrArg Int32.toInt64 (congrArg I ((fun q => hc.1.symm.trans (hc.2.2 q)) hcn))))) hne⟩
def tbW_11 : CT := [(1011, .aload_n 1, 1012, 0, 0, 0, 0, 0, 0, 0), (1012, .aload_n 0, 1013, 0, 0, 0, 0, 0, 0, 0), (1013, .iload 4, 1015, 0, 0, 0, 0, 0, 0, 0), (1015, .iconst 1, 1016, 0, 0, 0, 0, 0, 0, 0), (1016, .iadd, 1017, 0, 0, 0, 0, 0, 0, 0), (1017, .iaload, 1018, 0, 0, 0, 0, 0, 0, 0), (1018, .aload_n 0, 1019, 0, 0, 0, 0, 0, 0, 0), (1019, .iload 4, 1021, 0, 0, 0, 0, 0, 0, 0), (1021, .iconst 2, 1022, 0, 0, 0, 0, 0, 0, 0), (1022, .iadd, 1023, 0, 0, 0, 0, 0, 0, 0), (1023, .iaload, 1024, 0, 0, 0, 0, 0, 0, 0), (1024, .aload_n 0, 1025, 0, 0, 0, 0, 0, 0, 0), (1025, .iload 4, 1027, 0, 0, 0, 0, 0, 0, 0), (1027, .iconst 3, 1028, 0, 0, 0, 0, 0, 0, 0), (1028, .iadd, 1029, 0, 0, 0, 0, 0, 0, 0), (1029, .iaload, 1030, 0, 0, 0, 0, 0, 0, 0), (1030, .aload_n 0, 1031, 0, 0, 0, 0, 0, 0, 0), (1031, .iload 4, 1033, 0, 0, 0, 0, 0, 0, 0), (1033, .iconst 4, 1034, 0, 0, 0, 0, 0, 0, 0), (1034, .iadd, 1035, 0, 0, 0, 0, 0, 0, 0), (1035, .iaload, 1036, 0, 0, 0, 0, 0, 0, 0), (1036, .aload_n 0, 1037, 0, 0, 0, 0, 0, 0, 0), (1037, .iload 4, 1039, 0, 0, 0, 0, 0, 0, 0), (1039, .iconst 5, 1040, 0, 0, 0, 0, 0, 0, 0), (1040, .iadd, 1041, 0, 0, 0, 0, 0, 0, 0), (1041, .iaload, 1042, 0, 0, 0, 0, 0, 0, 0), (1042, .aload_n 0, 1043, 0, 0, 0, 0, 0, 0, 0), (1043, .iload 4, 1045, 0, 0, 0, 0, 0, 0, 0), (1045, .bipush 6, 1047, 0, 0, 0, 0, 0, 0, 0), (1047, .iadd, 1048, 0, 0, 0, 0, 0, 0, 0), (1048, .iaload, 1049, 0, 0, 0, 0, 0, 0, 0), (1049, .aload_n 0, 1050, 0, 0, 0, 0, 0, 0, 0), (1050, .iload 4, 1052, 0, 0, 0, 0, 0, 0, 0), (1052, .bipush 7, 1054, 0, 0, 0, 0, 0, 0, 0), (1054, .iadd, 1055, 0, 0, 0, 0, 0, 0, 0), (1055, .iaload, 1056, 0, 0, 0, 0, 0, 0, 0), (1056, .aload_n 0, 1057, 0, 0, 0, 0, 0, 0, 0), (1057, .iload 4, 1059, 0, 0, 0, 0, 0, 0, 0), (1059, .bipush 8, 1061, 0, 0, 0, 0, 0, 0, 0), (1061, .iadd, 1062, 0, 0, 0, 0, 0, 0, 0), (1062, .iaload, 1063, 0, 0, 0, 0, 0, 0, 0), (1063, .aload_n 0, 1064, 0, 0, 0, 0, 0, 0, 0), (1064, .iload 4, 1066, 0, 0, 0, 0, 0, 0, 0), (1066, .bipush 9, 1068, 0, 0, 0, 0, 0, 0, 0), (1068, .iadd, 1069, 0, 0, 0, 0, 0, 0, 0), (1069, .iaload, 1070, 0, 0, 0, 0, 0, 0, 0), (1070, .aload_n 3, 1071, 0, 0, 0, 0, 0, 0, 0), (1071, .invokestatic 157, 1074, 0, 0, 0, 0, 156, 687, 0), (1074, .istore 5, 1076, 0, 0, 0, 0, 0, 0, 0), (1076, .aload_n 2, 1077, 0, 0, 0, 0, 0, 0, 0), (1077, .aload_n 0, 1078, 0, 0, 0, 0, 0, 0, 0), (1078, .iload 4, 1080, 0, 0, 0, 0, 0, 0, 0), (1080, .iconst 1, 1081, 0, 0, 0, 0, 0, 0, 0), (1081, .iadd, 1082, 0, 0, 0, 0, 0, 0, 0), (1082, .iaload, 1083, 0, 0, 0, 0, 0, 0, 0), (1083, .aload_n 0, 1084, 0, 0, 0, 0, 0, 0, 0), (1084, .iload 4, 1086, 0, 0, 0, 0, 0, 0, 0), (1086, .iconst 2, 1087, 0, 0, 0, 0, 0, 0, 0), (1087, .iadd, 1088, 0, 0, 0, 0, 0, 0, 0), (1088, .iaload, 1089, 0, 0, 0, 0, 0, 0, 0), (1089, .aload_n 0, 1090, 0, 0, 0, 0, 0, 0, 0), (1090, .iload 4, 1092, 0, 0, 0, 0, 0, 0, 0), (1092, .iconst 3, 1093, 0, 0, 0, 0, 0, 0, 0), (1093, .iadd, 1094, 0, 0, 0, 0, 0, 0, 0), (1094, .iaload, 1095, 0, 0, 0, 0, 0, 0, 0), (1095, .aload_n 0, 1096, 0, 0, 0, 0, 0, 0, 0), (1096, .iload 4, 1098, 0, 0, 0, 0, 0, 0, 0), (1098, .iconst 4, 1099, 0, 0, 0, 0, 0, 0, 0), (1099, .iadd, 1100, 0, 0, 0, 0, 0, 0, 0), (1100, .iaload, 1101, 0, 0, 0, 0, 0, 0, 0), (1101, .aload_n 0, 1102, 0, 0, 0, 0, 0, 0, 0), (1102, .iload 4, 1104, 0, 0, 0, 0, 0, 0, 0), (1104, .iconst 5, 1105, 0, 0, 0, 0, 0, 0, 0), (1105, .iadd, 1106, 0, 0, 0, 0, 0, 0, 0), (1106, .iaload, 1107, 0, 0, 0, 0, 0, 0, 0), (1107, .aload_n 0, 1108, 0, 0, 0, 0, 0, 0, 0), (1108, .iload 4, 1110, 0, 0, 0, 0, 0, 0, 0), (1110, .bipush 6, 1112, 0, 0, 0, 0, 0, 0, 0), (1112, .iadd, 1113, 0, 0, 0, 0, 0, 0, 0), (1113, .iaload, 1114, 0, 0, 0, 0, 0, 0, 0), (1114, .aload_n 0, 1115, 0, 0, 0, 0, 0, 0, 0), (1115, .iload 4, 1117, 0, 0, 0, 0, 0, 0, 0), (1117, .bipush 7, 1119, 0, 0, 0, 0, 0, 0, 0), (1119, .iadd, 1120, 0, 0, 0, 0, 0, 0, 0), (1120, .iaload, 1121, 0, 0, 0, 0, 0, 0, 0), (1121, .aload_n 0, 1122, 0, 0, 0, 0, 0, 0, 0), (1122, .iload 4, 1124, 0, 0, 0, 0, 0, 0, 0), (1124, .bipush 8, 1126, 0, 0, 0, 0, 0, 0, 0), (1126, .iadd, 1127, 0, 0, 0, 0, 0, 0, 0), (1127, .iaload, 1128, 0, 0, 0, 0, 0, 0, 0), (1128, .aload_n 0, 1129, 0, 0, 0, 0, 0, 0, 0), (1129, .iload 4, 1131, 0, 0, 0, 0, 0, 0, 0), (1131, .bipush 9, 1133, 0, 0, 0, 0, 0, 0, 0), (1133, .iadd, 1134, 0, 0, 0, 0, 0, 0, 0), (1134, .iaload, 1135, 0, 0, 0, 0, 0, 0, 0), (1135, .invokevirtual 160, 1138, 0, 0, 0, 0, 101, 1233, 0), (1138, .istore 6, 1140, 0, 0, 0, 0, 0, 0, 0), (1140, .aload_n 2, 1141, 0, 0, 0, 0, 0, 0, 0), (1141, .invokevirtual 116, 1144, 0, 0, 0, 0, 71, 1129, 0), (1144, .iload 5, 1146, 0, 0, 0, 0, 0, 0, 0), (1146, .if_icmp .eq 5, 1149, 1151, 1151, 0, 0, 0, 0, 0), (1149, .iconst 0, 1150, 0, 0, 0, 0, 0, 0, 0), (1150, .ireturn, 1151, 0, 0, 0, 0, 0, 0, 0), (1151, .iload 5, 1153, 0, 0, 0, 0, 0, 0, 0), (1153, .ifCond .ne 15, 1156, 1168, 1168, 0, 0, 0, 0, 0), (1156, .aload_n 3, 1157, 0, 0, 0, 0, 0, 0, 0), (1157, .iconst 0, 1158, 0, 0, 0, 0, 0, 0, 0), (1158, .laload, 1159, 0, 0, 0, 0, 0, 0, 0), (1159, .iload 6, 1161, 0, 0, 0, 0, 0, 0, 0), (1161, .i2l, 1162, 0, 0, 0, 0, 0, 0, 0), (1162, .lcmp, 1163, 0, 0, 0, 0, 0, 0, 0), (1163, .ifCond .eq 5, 1166, 1168, 1168, 0, 0, 0, 0, 0), (1166, .iconst 0, 1167, 0, 0, 0, 0, 0, 0, 0), (1167, .ireturn, 1168, 0, 0, 0, 0, 0, 0, 0), (1168, .goto 1119, 1171, 2287, 2287, 0, 0, 0, 0, 0)]
theorem tkW_11 : tbW_11.all (cOK RL code) = true := by decide +kernel
set_option maxRecDepth 100000 in
set_option maxHeartbeats 400000 in
theorem law_11 (h0 : LC p l s m args meth c D ad A N xs) {i : Int} (i0 : 0 ≤ i) (i1 : i + 9 < N) (hf : cells + 11 ≤ room_1.cells ∧ slots + 66 ≤ room_1.slots) {a mo : Mm} {o : Int64} (h : FU a mo) (kk : ∀ a' m' o', FU a' m' → Wx p l e room_1 s m args below meth c (cells + 11) (slots + 66) Q lawV D ad A 7 2287 (LL i) [] (mix a' m') o') : Wx p l e room_1 s m args below meth c cells slots Q lawV D ad A 7 1011 (LL i) [] (mix a mo) o := by
  obtain ⟨hC, hN, hT, hR, hst, hX, hb, hN0⟩ := h0
  have hij := hC.2.2.2.2.2.2.2.2.1
  have hIA := h.2.2.2.2.2.2.2.1
  have hMV := FU_MV h
  have hIM := hMV.1
  have hIC := FU_IC h
  have hw26 := h.2.2.2.2.2.1
  have hw45 := h.2.2.2.2.2.2.1
  have hdat := FU_dat h
  refine wpl hC ⟨Nat.le_trans (by omega) hf.1, Nat.le_trans (by omega) hf.2⟩ tkW_11 [1012] 3 ?_
  refine Wx.reads' hC hX hb hN0 rfl rfl i0 law00 [1, 2, 3, 4, 5, 6, 7, 8, 9] 1012 _ (by decide +kernel) (by (repeat' first | exact fun _ h => absurd h List.not_mem_nil | refine List.forall_mem_cons.mpr ⟨?_, ?_⟩) <;> omega) (pc' := 1070) (by decide +kernel) (S' := [xi (scr xs (i + 9)), xi (scr xs (i + 8)), xi (scr xs (i + 7)), xi (scr xs (i + 6)), xi (scr xs (i + 5)), xi (scr xs (i + 4)), xi (scr xs (i + 3)), xi (scr xs (i + 2)), xi (scr xs (i + 1)), xr 1 0]) rfl ?_
  have hrd : ∀ (k9 : Int) (a9 : Mm) (o9 : Int64) (c9 s9 : Nat), Wx p l e room_1 s m args below meth c c9 s9 Q lawV D ad A 7 1135 (lset (LL i) 5 (xi k9)) [xi (scr xs (i + 9)), xi (scr xs (i + 8)), xi (scr xs (i + 7)), xi (scr xs (i + 6)), xi (scr xs (i + 5)), xi (scr xs (i + 4)), xi (scr xs (i + 3)), xi (scr xs (i + 2)), xi (scr xs (i + 1)), xr 40 0] (mix a9 mo) o9 → Wx p l e room_1 s m args below meth c c9 s9 Q lawV D ad A 7 1077 (lset (LL i) 5 (xi k9)) [xr 40 0] (mix a9 mo) o9 := fun k9 a9 o9 c9 s9 h9 => by
    exact Wx.reads' hC hX hb hN0 rfl rfl i0 law00 [1, 2, 3, 4, 5, 6, 7, 8, 9] 1077 _ (by decide +kernel) (by (repeat' first | exact fun _ h => absurd h List.not_mem_nil | refine List.forall_mem_cons.mpr ⟨?_, ?_⟩) <;> omega) (pc' := 1135) (by decide +kernel) (S' := [xi (scr xs (i + 9)), xi (scr xs (i + 8)), xi (scr xs (i + 7)), xi (scr xs (i + 6)), xi (scr xs (i + 5)), xi (scr xs (i + 4)), xi (scr xs (i + 3)), xi (scr xs (i + 2)), xi (scr xs (i + 1)), xr 40 0]) rfl h9
  have w1 := wr_scr xs (i + 1)
  have w2 := wr_scr xs (i + 2)
  have w3 := wr_scr xs (i + 3)
  have w4 := wr_scr xs (i + 4)
  have w5 := wr_scr xs (i + 5)
  have w6 := wr_scr xs (i + 6)
  have w7 := wr_scr xs (i + 7)
  have w8 := wr_scr xs (i + 8)
  have w9 := wr_scr xs (i + 9)
  generalize scr xs (i + 1) = p1 at w1 hrd ⊢
  generalize scr xs (i + 2) = p2 at w2 hrd ⊢
  generalize scr xs (i + 3) = p3 at w3 hrd ⊢
  generalize scr xs (i + 4) = p4 at w4 hrd ⊢
  generalize scr xs (i + 5) = p5 at w5 hrd ⊢
  generalize scr xs (i + 6) = p6 at w6 hrd ⊢
  generalize scr xs (i + 7) = p7 at w7 hrd ⊢
  generalize scr xs (i + 8) = p8 at w8 hrd ⊢
  generalize scr xs (i + 9) = p9 at w9 hrd ⊢
  refine wpl hC ⟨Nat.le_trans (by omega) hf.1, Nat.le_trans (by omega) hf.2⟩ tkW_11 [] 3 ?_
  have hc := call_target h p1 p2 p3 p4 p5 p6 p7 p8 p9
  have hM := W_target a o p1 p2 p3 p4 p5 p6 p7 p8 p9 w1 w2 w3 w4 w5 w6 w7 w8 w9 hIA
  rw [hc.1.1, hc.1.2] at hM
  refine Wx.lW (y := iL_target) (avs := [_, _, _, _, _, _, _, _, _, _, _]) (rest := []) hC hN hT hR hst tkW_11 rfl rfl rfl kL_target (by decide +kernel) hM rfl (Nat.zero_le _) (by repeat' first | exact fun _ h => absurd h List.not_mem_nil | exact cl10 | exact cl35 | exact trivial | refine List.forall_mem_cons.mpr ⟨?_, ?_⟩) ⟨Nat.le_trans (by omega) hf.1, Nat.le_trans (by omega) hf.2⟩ ?_
  rintro r a' o' ⟨rfl, rfl, rfl⟩
  refine wpl hC ⟨Nat.le_trans (by omega) hf.1, Nat.le_trans (by omega) hf.2⟩ tkW_11 [1077] 4 ?_
  refine hrd _ _ _ _ _ ?_
  refine Wx.lV (V' := moV) (g := fun m => mix _ m) (y := iX11_target) (avs := [_, _, _, _, _, _, _, _, _]) (rest := []) hC hN (loc_mo _) (Or.inr fun r m' o' hF => hF.2.2.symm) (wf_mo hij) mo40 tkW_11 rfl rfl kX11_target (by decide +kernel) (M_mtarget p1 p2 p3 p4 p5 p6 p7 p8 p9 _ _ w1 w2 w3 w4 w5 w6 w7 w8 w9 hIM.1.1 hIM.2.1.1 hIM.2.1.2) ⟨rfl, rfl⟩ rfl (Nat.zero_le _) (by repeat' first | exact fun _ h => absurd h List.not_mem_nil | exact trivial | refine List.forall_mem_cons.mpr ⟨?_, ?_⟩) ⟨Nat.le_trans (by omega) hf.1, Nat.le_trans (by omega) hf.2⟩ ?_
  rintro r m' o' ⟨rfl, rfl, rfl⟩
  refine wpl hC ⟨Nat.le_trans (by omega) hf.1, Nat.le_trans (by omega) hf.2⟩ tkW_11 [] 4 ?_
  refine Wx.lV (V' := moV) (g := fun m => mix _ m) (y := iX11_thrown) (avs := []) (rest := []) hC hN (loc_mo _) (Or.inr fun r m' o' hF => hF.2.2.symm) (wf_mo hij) mo40 tkW_11 rfl rfl kX11_thrown (by decide +kernel) (M_thrown _ _) ⟨rfl, rfl⟩ rfl (Nat.zero_le _) (fun _ h => absurd h List.not_mem_nil) ⟨Nat.le_trans (by omega) hf.1, Nat.le_trans (by omega) hf.2⟩ ?_
  rintro r m' o' ⟨rfl, rfl, rfl⟩
  refine wpl hC ⟨Nat.le_trans (by omega) hf.1, Nat.le_trans (by omega) hf.2⟩ tkW_11 [2287] 30 ?_
  refine ⟨fun _ => ⟨fun _ => Wx.widen (k := cells + 11) (n := slots + 66) (by omega) (by omega) (Wx.pick [0, 1, 2, 3, 4] rfl (kk _ _ _ hc.2.1.1)), fun hk => ?_⟩, fun hne => absurd (congrArg wr (hc.2.1.2)) hne⟩
  have hcn := cdX_0 (by decide) hk
  exact ⟨rfl, fun _ => Wx.widen (k := cells + 11) (n := slots + 66) (by omega) (by omega) (Wx.pick [0, 1, 2, 3, 4] rfl (kk _ _ _ hc.2.1.1)), fun hne => absurd (cmp0 ((pif_t hcn).trans (congrArg Int32.toInt64 (congrArg I ((fun q => hc.1.2.symm.trans (hc.2.2 q)) hcn))))) hne⟩
def tbW_12 : CT := [(1171, .aload_n 1, 1172, 0, 0, 0, 0, 0, 0, 0), (1172, .aload_n 0, 1173, 0, 0, 0, 0, 0, 0, 0), (1173, .iload 4, 1175, 0, 0, 0, 0, 0, 0, 0), (1175, .iconst 1, 1176, 0, 0, 0, 0, 0, 0, 0), (1176, .iadd, 1177, 0, 0, 0, 0, 0, 0, 0), (1177, .iaload, 1178, 0, 0, 0, 0, 0, 0, 0), (1178, .aload_n 0, 1179, 0, 0, 0, 0, 0, 0, 0), (1179, .iload 4, 1181, 0, 0, 0, 0, 0, 0, 0), (1181, .iconst 2, 1182, 0, 0, 0, 0, 0, 0, 0), (1182, .iadd, 1183, 0, 0, 0, 0, 0, 0, 0), (1183, .iaload, 1184, 0, 0, 0, 0, 0, 0, 0), (1184, .aload_n 0, 1185, 0, 0, 0, 0, 0, 0, 0), (1185, .iload 4, 1187, 0, 0, 0, 0, 0, 0, 0), (1187, .iconst 3, 1188, 0, 0, 0, 0, 0, 0, 0), (1188, .iadd, 1189, 0, 0, 0, 0, 0, 0, 0), (1189, .iaload, 1190, 0, 0, 0, 0, 0, 0, 0), (1190, .aload_n 0, 1191, 0, 0, 0, 0, 0, 0, 0), (1191, .iload 4, 1193, 0, 0, 0, 0, 0, 0, 0), (1193, .iconst 4, 1194, 0, 0, 0, 0, 0, 0, 0), (1194, .iadd, 1195, 0, 0, 0, 0, 0, 0, 0), (1195, .iaload, 1196, 0, 0, 0, 0, 0, 0, 0), (1196, .invokestatic 161, 1199, 0, 0, 0, 0, 157, 700, 0), (1199, .istore 5, 1201, 0, 0, 0, 0, 0, 0, 0), (1201, .aload_n 2, 1202, 0, 0, 0, 0, 0, 0, 0), (1202, .aload_n 0, 1203, 0, 0, 0, 0, 0, 0, 0), (1203, .iload 4, 1205, 0, 0, 0, 0, 0, 0, 0), (1205, .iconst 1, 1206, 0, 0, 0, 0, 0, 0, 0), (1206, .iadd, 1207, 0, 0, 0, 0, 0, 0, 0), (1207, .iaload, 1208, 0, 0, 0, 0, 0, 0, 0), (1208, .aload_n 0, 1209, 0, 0, 0, 0, 0, 0, 0), (1209, .iload 4, 1211, 0, 0, 0, 0, 0, 0, 0), (1211, .iconst 2, 1212, 0, 0, 0, 0, 0, 0, 0), (1212, .iadd, 1213, 0, 0, 0, 0, 0, 0, 0), (1213, .iaload, 1214, 0, 0, 0, 0, 0, 0, 0), (1214, .aload_n 0, 1215, 0, 0, 0, 0, 0, 0, 0), (1215, .iload 4, 1217, 0, 0, 0, 0, 0, 0, 0), (1217, .iconst 3, 1218, 0, 0, 0, 0, 0, 0, 0), (1218, .iadd, 1219, 0, 0, 0, 0, 0, 0, 0), (1219, .iaload, 1220, 0, 0, 0, 0, 0, 0, 0), (1220, .aload_n 0, 1221, 0, 0, 0, 0, 0, 0, 0), (1221, .iload 4, 1223, 0, 0, 0, 0, 0, 0, 0), (1223, .iconst 4, 1224, 0, 0, 0, 0, 0, 0, 0), (1224, .iadd, 1225, 0, 0, 0, 0, 0, 0, 0), (1225, .iaload, 1226, 0, 0, 0, 0, 0, 0, 0), (1226, .invokevirtual 163, 1229, 0, 0, 0, 0, 102, 1241, 0), (1229, .aload_n 2, 1230, 0, 0, 0, 0, 0, 0, 0), (1230, .invokevirtual 116, 1233, 0, 0, 0, 0, 71, 1129, 0), (1233, .iload 5, 1235, 0, 0, 0, 0, 0, 0, 0), (1235, .if_icmp .eq 5, 1238, 1240, 1240, 0, 0, 0, 0, 0), (1238, .iconst 0, 1239, 0, 0, 0, 0, 0, 0, 0), (1239, .ireturn, 1240, 0, 0, 0, 0, 0, 0, 0), (1240, .goto 1047, 1243, 2287, 2287, 0, 0, 0, 0, 0)]
theorem tkW_12 : tbW_12.all (cOK RL code) = true := by decide +kernel
set_option maxRecDepth 100000 in
set_option maxHeartbeats 400000 in
theorem law_12 (h0 : LC p l s m args meth c D ad A N xs) {i : Int} (i0 : 0 ≤ i) (i1 : i + 9 < N) (hf : cells + 11 ≤ room_1.cells ∧ slots + 66 ≤ room_1.slots) {a mo : Mm} {o : Int64} (h : FU a mo) (kk : ∀ a' m' o', FU a' m' → Wx p l e room_1 s m args below meth c (cells + 11) (slots + 66) Q lawV D ad A 7 2287 (LL i) [] (mix a' m') o') : Wx p l e room_1 s m args below meth c cells slots Q lawV D ad A 7 1171 (LL i) [] (mix a mo) o := by
  obtain ⟨hC, hN, hT, hR, hst, hX, hb, hN0⟩ := h0
  have hij := hC.2.2.2.2.2.2.2.2.1
  have hIA := h.2.2.2.2.2.2.2.1
  have hMV := FU_MV h
  have hIM := hMV.1
  have hIC := FU_IC h
  have hw26 := h.2.2.2.2.2.1
  have hw45 := h.2.2.2.2.2.2.1
  have hdat := FU_dat h
  refine wpl hC ⟨Nat.le_trans (by omega) hf.1, Nat.le_trans (by omega) hf.2⟩ tkW_12 [1172] 3 ?_
  refine Wx.reads' hC hX hb hN0 rfl rfl i0 law00 [1, 2, 3, 4] 1172 _ (by decide +kernel) (by (repeat' first | exact fun _ h => absurd h List.not_mem_nil | refine List.forall_mem_cons.mpr ⟨?_, ?_⟩) <;> omega) (pc' := 1196) (by decide +kernel) (S' := [xi (scr xs (i + 4)), xi (scr xs (i + 3)), xi (scr xs (i + 2)), xi (scr xs (i + 1)), xr 1 0]) rfl ?_
  have hrd : ∀ (k9 : Int) (a9 : Mm) (o9 : Int64) (c9 s9 : Nat), Wx p l e room_1 s m args below meth c c9 s9 Q lawV D ad A 7 1226 (lset (LL i) 5 (xi k9)) [xi (scr xs (i + 4)), xi (scr xs (i + 3)), xi (scr xs (i + 2)), xi (scr xs (i + 1)), xr 40 0] (mix a9 mo) o9 → Wx p l e room_1 s m args below meth c c9 s9 Q lawV D ad A 7 1202 (lset (LL i) 5 (xi k9)) [xr 40 0] (mix a9 mo) o9 := fun k9 a9 o9 c9 s9 h9 => by
    exact Wx.reads' hC hX hb hN0 rfl rfl i0 law00 [1, 2, 3, 4] 1202 _ (by decide +kernel) (by (repeat' first | exact fun _ h => absurd h List.not_mem_nil | refine List.forall_mem_cons.mpr ⟨?_, ?_⟩) <;> omega) (pc' := 1226) (by decide +kernel) (S' := [xi (scr xs (i + 4)), xi (scr xs (i + 3)), xi (scr xs (i + 2)), xi (scr xs (i + 1)), xr 40 0]) rfl h9
  have w1 := wr_scr xs (i + 1)
  have w2 := wr_scr xs (i + 2)
  have w3 := wr_scr xs (i + 3)
  have w4 := wr_scr xs (i + 4)
  generalize scr xs (i + 1) = p1 at w1 hrd ⊢
  generalize scr xs (i + 2) = p2 at w2 hrd ⊢
  generalize scr xs (i + 3) = p3 at w3 hrd ⊢
  generalize scr xs (i + 4) = p4 at w4 hrd ⊢
  have hc := call_series h p1 p2 p3 p4
  have hM := W_series a o p1 p2 p3 p4 w1 w2 w3 w4 hIA
  rw [hc.2.1] at hM
  refine Wx.lW (y := iL_series) (avs := [_, _, _, _, _]) (rest := []) hC hN hT hR hst tkW_12 rfl rfl rfl kL_series (by decide +kernel) hM rfl (Nat.zero_le _) (by repeat' first | exact fun _ h => absurd h List.not_mem_nil | exact cl10 | exact cl35 | exact trivial | refine List.forall_mem_cons.mpr ⟨?_, ?_⟩) ⟨Nat.le_trans (by omega) hf.1, Nat.le_trans (by omega) hf.2⟩ ?_
  rintro r a' o' ⟨rfl, rfl, rfl⟩
  refine wpl hC ⟨Nat.le_trans (by omega) hf.1, Nat.le_trans (by omega) hf.2⟩ tkW_12 [1202] 4 ?_
  refine hrd _ _ _ _ _ ?_
  refine Wx.lV (V' := moV) (g := fun m => mix _ m) (y := iX11_series) (avs := [_, _, _, _]) (rest := []) hC hN (loc_mo _) (Or.inr fun r m' o' hF => hF.2.2.symm) (wf_mo hij) mo40 tkW_12 rfl rfl kX11_series (by decide +kernel) (M_mseries p1 p2 p3 p4 _ _ w1 w2 w3 w4 hIM.2.1.1 hIM.2.1.2) ⟨rfl, rfl⟩ rfl (Nat.zero_le _) (by repeat' first | exact fun _ h => absurd h List.not_mem_nil | exact trivial | refine List.forall_mem_cons.mpr ⟨?_, ?_⟩) ⟨Nat.le_trans (by omega) hf.1, Nat.le_trans (by omega) hf.2⟩ ?_
  rintro r m' o' ⟨rfl, rfl, rfl⟩
  refine wpl hC ⟨Nat.le_trans (by omega) hf.1, Nat.le_trans (by omega) hf.2⟩ tkW_12 [] 4 ?_
  refine Wx.lV (V' := moV) (g := fun m => mix _ m) (y := iX11_thrown) (avs := []) (rest := []) hC hN (loc_mo _) (Or.inr fun r m' o' hF => hF.2.2.symm) (wf_mo hij) mo40 tkW_12 rfl rfl kX11_thrown (by decide +kernel) (M_thrown _ _) ⟨rfl, rfl⟩ rfl (Nat.zero_le _) (fun _ h => absurd h List.not_mem_nil) ⟨Nat.le_trans (by omega) hf.1, Nat.le_trans (by omega) hf.2⟩ ?_
  rintro r m' o' ⟨rfl, rfl, rfl⟩
  refine wpl hC ⟨Nat.le_trans (by omega) hf.1, Nat.le_trans (by omega) hf.2⟩ tkW_12 [2287] 30 ?_
  exact ⟨fun _ => Wx.widen (k := cells + 11) (n := slots + 66) (by omega) (by omega) (Wx.pick [0, 1, 2, 3, 4] rfl (kk _ _ _ hc.2.2.1)), fun hne => absurd (congrArg wr (hc.2.2.2)) hne⟩
def tbW_13 : CT := [(1243, .aload_n 1, 1244, 0, 0, 0, 0, 0, 0, 0), (1244, .aload_n 0, 1245, 0, 0, 0, 0, 0, 0, 0), (1245, .iload 4, 1247, 0, 0, 0, 0, 0, 0, 0), (1247, .iconst 1, 1248, 0, 0, 0, 0, 0, 0, 0), (1248, .iadd, 1249, 0, 0, 0, 0, 0, 0, 0), (1249, .iaload, 1250, 0, 0, 0, 0, 0, 0, 0), (1250, .aload_n 0, 1251, 0, 0, 0, 0, 0, 0, 0), (1251, .iload 4, 1253, 0, 0, 0, 0, 0, 0, 0), (1253, .iconst 2, 1254, 0, 0, 0, 0, 0, 0, 0), (1254, .iadd, 1255, 0, 0, 0, 0, 0, 0, 0), (1255, .iaload, 1256, 0, 0, 0, 0, 0, 0, 0), (1256, .aload_n 0, 1257, 0, 0, 0, 0, 0, 0, 0), (1257, .iload 4, 1259, 0, 0, 0, 0, 0, 0, 0), (1259, .iconst 3, 1260, 0, 0, 0, 0, 0, 0, 0), (1260, .iadd, 1261, 0, 0, 0, 0, 0, 0, 0), (1261, .iaload, 1262, 0, 0, 0, 0, 0, 0, 0), (1262, .aload_n 0, 1263, 0, 0, 0, 0, 0, 0, 0), (1263, .iload 4, 1265, 0, 0, 0, 0, 0, 0, 0), (1265, .iconst 4, 1266, 0, 0, 0, 0, 0, 0, 0), (1266, .iadd, 1267, 0, 0, 0, 0, 0, 0, 0), (1267, .iaload, 1268, 0, 0, 0, 0, 0, 0, 0), (1268, .aload_n 0, 1269, 0, 0, 0, 0, 0, 0, 0), (1269, .iload 4, 1271, 0, 0, 0, 0, 0, 0, 0), (1271, .iconst 5, 1272, 0, 0, 0, 0, 0, 0, 0), (1272, .iadd, 1273, 0, 0, 0, 0, 0, 0, 0), (1273, .iaload, 1274, 0, 0, 0, 0, 0, 0, 0), (1274, .aload_n 0, 1275, 0, 0, 0, 0, 0, 0, 0), (1275, .iload 4, 1277, 0, 0, 0, 0, 0, 0, 0), (1277, .bipush 6, 1279, 0, 0, 0, 0, 0, 0, 0), (1279, .iadd, 1280, 0, 0, 0, 0, 0, 0, 0), (1280, .iaload, 1281, 0, 0, 0, 0, 0, 0, 0), (1281, .aload_n 0, 1282, 0, 0, 0, 0, 0, 0, 0), (1282, .iload 4, 1284, 0, 0, 0, 0, 0, 0, 0), (1284, .bipush 7, 1286, 0, 0, 0, 0, 0, 0, 0), (1286, .iadd, 1287, 0, 0, 0, 0, 0, 0, 0), (1287, .iaload, 1288, 0, 0, 0, 0, 0, 0, 0), (1288, .aload_n 0, 1289, 0, 0, 0, 0, 0, 0, 0), (1289, .iload 4, 1291, 0, 0, 0, 0, 0, 0, 0), (1291, .bipush 8, 1293, 0, 0, 0, 0, 0, 0, 0), (1293, .iadd, 1294, 0, 0, 0, 0, 0, 0, 0), (1294, .iaload, 1295, 0, 0, 0, 0, 0, 0, 0), (1295, .aload_n 0, 1296, 0, 0, 0, 0, 0, 0, 0), (1296, .iload 4, 1298, 0, 0, 0, 0, 0, 0, 0), (1298, .bipush 9, 1300, 0, 0, 0, 0, 0, 0, 0), (1300, .iadd, 1301, 0, 0, 0, 0, 0, 0, 0), (1301, .iaload, 1302, 0, 0, 0, 0, 0, 0, 0), (1302, .aload_n 3, 1303, 0, 0, 0, 0, 0, 0, 0), (1303, .invokestatic 164, 1306, 0, 0, 0, 0, 158, 707, 0), (1306, .istore 5, 1308, 0, 0, 0, 0, 0, 0, 0), (1308, .aload_n 2, 1309, 0, 0, 0, 0, 0, 0, 0), (1309, .aload_n 0, 1310, 0, 0, 0, 0, 0, 0, 0), (1310, .iload 4, 1312, 0, 0, 0, 0, 0, 0, 0), (1312, .iconst 1, 1313, 0, 0, 0, 0, 0, 0, 0), (1313, .iadd, 1314, 0, 0, 0, 0, 0, 0, 0), (1314, .iaload, 1315, 0, 0, 0, 0, 0, 0, 0), (1315, .aload_n 0, 1316, 0, 0, 0, 0, 0, 0, 0), (1316, .iload 4, 1318, 0, 0, 0, 0, 0, 0, 0), (1318, .iconst 2, 1319, 0, 0, 0, 0, 0, 0, 0), (1319, .iadd, 1320, 0, 0, 0, 0, 0, 0, 0), (1320, .iaload, 1321, 0, 0, 0, 0, 0, 0, 0), (1321, .aload_n 0, 1322, 0, 0, 0, 0, 0, 0, 0), (1322, .iload 4, 1324, 0, 0, 0, 0, 0, 0, 0), (1324, .iconst 3, 1325, 0, 0, 0, 0, 0, 0, 0), (1325, .iadd, 1326, 0, 0, 0, 0, 0, 0, 0), (1326, .iaload, 1327, 0, 0, 0, 0, 0, 0, 0), (1327, .aload_n 0, 1328, 0, 0, 0, 0, 0, 0, 0), (1328, .iload 4, 1330, 0, 0, 0, 0, 0, 0, 0), (1330, .iconst 4, 1331, 0, 0, 0, 0, 0, 0, 0), (1331, .iadd, 1332, 0, 0, 0, 0, 0, 0, 0), (1332, .iaload, 1333, 0, 0, 0, 0, 0, 0, 0), (1333, .aload_n 0, 1334, 0, 0, 0, 0, 0, 0, 0), (1334, .iload 4, 1336, 0, 0, 0, 0, 0, 0, 0), (1336, .iconst 5, 1337, 0, 0, 0, 0, 0, 0, 0), (1337, .iadd, 1338, 0, 0, 0, 0, 0, 0, 0), (1338, .iaload, 1339, 0, 0, 0, 0, 0, 0, 0), (1339, .aload_n 0, 1340, 0, 0, 0, 0, 0, 0, 0), (1340, .iload 4, 1342, 0, 0, 0, 0, 0, 0, 0), (1342, .bipush 6, 1344, 0, 0, 0, 0, 0, 0, 0), (1344, .iadd, 1345, 0, 0, 0, 0, 0, 0, 0), (1345, .iaload, 1346, 0, 0, 0, 0, 0, 0, 0), (1346, .aload_n 0, 1347, 0, 0, 0, 0, 0, 0, 0), (1347, .iload 4, 1349, 0, 0, 0, 0, 0, 0, 0), (1349, .bipush 7, 1351, 0, 0, 0, 0, 0, 0, 0), (1351, .iadd, 1352, 0, 0, 0, 0, 0, 0, 0), (1352, .iaload, 1353, 0, 0, 0, 0, 0, 0, 0), (1353, .aload_n 0, 1354, 0, 0, 0, 0, 0, 0, 0), (1354, .iload 4, 1356, 0, 0, 0, 0, 0, 0, 0), (1356, .bipush 8, 1358, 0, 0, 0, 0, 0, 0, 0), (1358, .iadd, 1359, 0, 0, 0, 0, 0, 0, 0), (1359, .iaload, 1360, 0, 0, 0, 0, 0, 0, 0), (1360, .aload_n 0, 1361, 0, 0, 0, 0, 0, 0, 0), (1361, .iload 4, 1363, 0, 0, 0, 0, 0, 0, 0), (1363, .bipush 9, 1365, 0, 0, 0, 0, 0, 0, 0), (1365, .iadd, 1366, 0, 0, 0, 0, 0, 0, 0), (1366, .iaload, 1367, 0, 0, 0, 0, 0, 0, 0), (1367, .invokevirtual 166, 1370, 0, 0, 0, 0, 103, 1249, 0), (1370, .istore 6, 1372, 0, 0, 0, 0, 0, 0, 0), (1372, .aload_n 2, 1373, 0, 0, 0, 0, 0, 0, 0), (1373, .invokevirtual 116, 1376, 0, 0, 0, 0, 71, 1129, 0), (1376, .iload 5, 1378, 0, 0, 0, 0, 0, 0, 0), (1378, .if_icmp .eq 5, 1381, 1383, 1383, 0, 0, 0, 0, 0), (1381, .iconst 0, 1382, 0, 0, 0, 0, 0, 0, 0), (1382, .ireturn, 1383, 0, 0, 0, 0, 0, 0, 0), (1383, .iload 5, 1385, 0, 0, 0, 0, 0, 0, 0), (1385, .ifCond .ne 15, 1388, 1400, 1400, 0, 0, 0, 0, 0), (1388, .aload_n 3, 1389, 0, 0, 0, 0, 0, 0, 0), (1389, .iconst 0, 1390, 0, 0, 0, 0, 0, 0, 0), (1390, .laload, 1391, 0, 0, 0, 0, 0, 0, 0), (1391, .iload 6, 1393, 0, 0, 0, 0, 0, 0, 0), (1393, .i2l, 1394, 0, 0, 0, 0, 0, 0, 0), (1394, .lcmp, 1395, 0, 0, 0, 0, 0, 0, 0), (1395, .ifCond .eq 5, 1398, 1400, 1400, 0, 0, 0, 0, 0), (1398, .iconst 0, 1399, 0, 0, 0, 0, 0, 0, 0), (1399, .ireturn, 1400, 0, 0, 0, 0, 0, 0, 0), (1400, .goto 887, 1403, 2287, 2287, 0, 0, 0, 0, 0)]
theorem tkW_13 : tbW_13.all (cOK RL code) = true := by decide +kernel
set_option maxRecDepth 100000 in
set_option maxHeartbeats 400000 in
theorem law_13 (h0 : LC p l s m args meth c D ad A N xs) {i : Int} (i0 : 0 ≤ i) (i1 : i + 9 < N) (hf : cells + 11 ≤ room_1.cells ∧ slots + 66 ≤ room_1.slots) {a mo : Mm} {o : Int64} (h : FU a mo) (kk : ∀ a' m' o', FU a' m' → Wx p l e room_1 s m args below meth c (cells + 11) (slots + 66) Q lawV D ad A 7 2287 (LL i) [] (mix a' m') o') : Wx p l e room_1 s m args below meth c cells slots Q lawV D ad A 7 1243 (LL i) [] (mix a mo) o := by
  obtain ⟨hC, hN, hT, hR, hst, hX, hb, hN0⟩ := h0
  have hij := hC.2.2.2.2.2.2.2.2.1
  have hIA := h.2.2.2.2.2.2.2.1
  have hMV := FU_MV h
  have hIM := hMV.1
  have hIC := FU_IC h
  have hw26 := h.2.2.2.2.2.1
  have hw45 := h.2.2.2.2.2.2.1
  have hdat := FU_dat h
  refine wpl hC ⟨Nat.le_trans (by omega) hf.1, Nat.le_trans (by omega) hf.2⟩ tkW_13 [1244] 3 ?_
  refine Wx.reads' hC hX hb hN0 rfl rfl i0 law00 [1, 2, 3, 4, 5, 6, 7, 8, 9] 1244 _ (by decide +kernel) (by (repeat' first | exact fun _ h => absurd h List.not_mem_nil | refine List.forall_mem_cons.mpr ⟨?_, ?_⟩) <;> omega) (pc' := 1302) (by decide +kernel) (S' := [xi (scr xs (i + 9)), xi (scr xs (i + 8)), xi (scr xs (i + 7)), xi (scr xs (i + 6)), xi (scr xs (i + 5)), xi (scr xs (i + 4)), xi (scr xs (i + 3)), xi (scr xs (i + 2)), xi (scr xs (i + 1)), xr 1 0]) rfl ?_
  have hrd : ∀ (k9 : Int) (a9 : Mm) (o9 : Int64) (c9 s9 : Nat), Wx p l e room_1 s m args below meth c c9 s9 Q lawV D ad A 7 1367 (lset (LL i) 5 (xi k9)) [xi (scr xs (i + 9)), xi (scr xs (i + 8)), xi (scr xs (i + 7)), xi (scr xs (i + 6)), xi (scr xs (i + 5)), xi (scr xs (i + 4)), xi (scr xs (i + 3)), xi (scr xs (i + 2)), xi (scr xs (i + 1)), xr 40 0] (mix a9 mo) o9 → Wx p l e room_1 s m args below meth c c9 s9 Q lawV D ad A 7 1309 (lset (LL i) 5 (xi k9)) [xr 40 0] (mix a9 mo) o9 := fun k9 a9 o9 c9 s9 h9 => by
    exact Wx.reads' hC hX hb hN0 rfl rfl i0 law00 [1, 2, 3, 4, 5, 6, 7, 8, 9] 1309 _ (by decide +kernel) (by (repeat' first | exact fun _ h => absurd h List.not_mem_nil | refine List.forall_mem_cons.mpr ⟨?_, ?_⟩) <;> omega) (pc' := 1367) (by decide +kernel) (S' := [xi (scr xs (i + 9)), xi (scr xs (i + 8)), xi (scr xs (i + 7)), xi (scr xs (i + 6)), xi (scr xs (i + 5)), xi (scr xs (i + 4)), xi (scr xs (i + 3)), xi (scr xs (i + 2)), xi (scr xs (i + 1)), xr 40 0]) rfl h9
  have w1 := wr_scr xs (i + 1)
  have w2 := wr_scr xs (i + 2)
  have w3 := wr_scr xs (i + 3)
  have w4 := wr_scr xs (i + 4)
  have w5 := wr_scr xs (i + 5)
  have w6 := wr_scr xs (i + 6)
  have w7 := wr_scr xs (i + 7)
  have w8 := wr_scr xs (i + 8)
  have w9 := wr_scr xs (i + 9)
  generalize scr xs (i + 1) = p1 at w1 hrd ⊢
  generalize scr xs (i + 2) = p2 at w2 hrd ⊢
  generalize scr xs (i + 3) = p3 at w3 hrd ⊢
  generalize scr xs (i + 4) = p4 at w4 hrd ⊢
  generalize scr xs (i + 5) = p5 at w5 hrd ⊢
  generalize scr xs (i + 6) = p6 at w6 hrd ⊢
  generalize scr xs (i + 7) = p7 at w7 hrd ⊢
  generalize scr xs (i + 8) = p8 at w8 hrd ⊢
  generalize scr xs (i + 9) = p9 at w9 hrd ⊢
  refine wpl hC ⟨Nat.le_trans (by omega) hf.1, Nat.le_trans (by omega) hf.2⟩ tkW_13 [] 3 ?_
  have hc := call_alert h p1 p2 p3 p4 p5 p6 p7 p8 p9
  have hM := W_alert a o p1 p2 p3 p4 p5 p6 p7 p8 p9 w1 w2 w3 w4 w5 w6 w7 w8 w9 hIA
  rw [hc.1] at hM
  refine Wx.lW (y := iL_alert) (avs := [_, _, _, _, _, _, _, _, _, _, _]) (rest := []) hC hN hT hR hst tkW_13 rfl rfl rfl kL_alert (by decide +kernel) hM rfl (Nat.zero_le _) (by repeat' first | exact fun _ h => absurd h List.not_mem_nil | exact cl10 | exact cl35 | exact trivial | refine List.forall_mem_cons.mpr ⟨?_, ?_⟩) ⟨Nat.le_trans (by omega) hf.1, Nat.le_trans (by omega) hf.2⟩ ?_
  rintro r a' o' ⟨rfl, rfl, rfl⟩
  refine wpl hC ⟨Nat.le_trans (by omega) hf.1, Nat.le_trans (by omega) hf.2⟩ tkW_13 [1309] 4 ?_
  refine hrd _ _ _ _ _ ?_
  refine Wx.lV (V' := moV) (g := fun m => mix _ m) (y := iX11_alert) (avs := [_, _, _, _, _, _, _, _, _]) (rest := []) hC hN (loc_mo _) (Or.inr fun r m' o' hF => hF.2.2.symm) (wf_mo hij) mo40 tkW_13 rfl rfl kX11_alert (by decide +kernel) (M_malert p1 p2 p3 p4 p5 p6 p7 p8 p9 _ _ w1 w2 w3 w4 w5 w6 w7 w8 w9 hIM.2.2.1.1 hIM.2.2.1.2) ⟨rfl, rfl⟩ rfl (Nat.zero_le _) (by repeat' first | exact fun _ h => absurd h List.not_mem_nil | exact trivial | refine List.forall_mem_cons.mpr ⟨?_, ?_⟩) ⟨Nat.le_trans (by omega) hf.1, Nat.le_trans (by omega) hf.2⟩ ?_
  rintro r m' o' ⟨rfl, rfl, rfl⟩
  refine wpl hC ⟨Nat.le_trans (by omega) hf.1, Nat.le_trans (by omega) hf.2⟩ tkW_13 [] 4 ?_
  refine Wx.lV (V' := moV) (g := fun m => mix _ m) (y := iX11_thrown) (avs := []) (rest := []) hC hN (loc_mo _) (Or.inr fun r m' o' hF => hF.2.2.symm) (wf_mo hij) mo40 tkW_13 rfl rfl kX11_thrown (by decide +kernel) (M_thrown _ _) ⟨rfl, rfl⟩ rfl (Nat.zero_le _) (fun _ h => absurd h List.not_mem_nil) ⟨Nat.le_trans (by omega) hf.1, Nat.le_trans (by omega) hf.2⟩ ?_
  rintro r m' o' ⟨rfl, rfl, rfl⟩
  refine wpl hC ⟨Nat.le_trans (by omega) hf.1, Nat.le_trans (by omega) hf.2⟩ tkW_13 [2287] 30 ?_
  refine ⟨fun _ => ⟨fun _ => Wx.widen (k := cells + 11) (n := slots + 66) (by omega) (by omega) (Wx.pick [0, 1, 2, 3, 4] rfl (kk _ _ _ hc.2.1.1)), fun hk => ?_⟩, fun hne => absurd (congrArg wr (hc.2.1.2)) hne⟩
  have hcn := cdX_0 (by decide) hk
  exact ⟨rfl, fun _ => Wx.widen (k := cells + 11) (n := slots + 66) (by omega) (by omega) (Wx.pick [0, 1, 2, 3, 4] rfl (kk _ _ _ hc.2.1.1)), fun hne => absurd (cmp0 ((pif_t hcn).trans (congrArg Int32.toInt64 (congrArg I ((fun q => hc.1.symm.trans (hc.2.2 q)) hcn))))) hne⟩
end CTX
