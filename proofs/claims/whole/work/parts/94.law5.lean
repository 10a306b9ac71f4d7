/-! ===== the law, case by case, 5 ===== -/
section CTX
variable {p : Program} {l : Launch} {e : Env} {s : State} {m : MethodId} {args : Array Value} {below : List Frame} {meth : Method} {c : Code} {cells slots : Nat} {Q : State → Prop} {D : DD} {ad : Nat → Int → Nat} {A : Nat → Prop} {N : Nat} {xs : Nat → Int32}
def tbW_20 : CT := [(1708, .aload_n 1, 1709, 0, 0, 0, 0, 0, 0, 0), (1709, .aload_n 0, 1710, 0, 0, 0, 0, 0, 0, 0), (1710, .iload 4, 1712, 0, 0, 0, 0, 0, 0, 0), (1712, .iconst 1, 1713, 0, 0, 0, 0, 0, 0, 0), (1713, .iadd, 1714, 0, 0, 0, 0, 0, 0, 0), (1714, .iaload, 1715, 0, 0, 0, 0, 0, 0, 0), (1715, .aload_n 3, 1716, 0, 0, 0, 0, 0, 0, 0), (1716, .invokestatic 187, 1719, 0, 0, 0, 0, 163, 869, 0), (1719, .istore 5, 1721, 0, 0, 0, 0, 0, 0, 0), (1721, .aload_n 2, 1722, 0, 0, 0, 0, 0, 0, 0), (1722, .aload_n 0, 1723, 0, 0, 0, 0, 0, 0, 0), (1723, .iload 4, 1725, 0, 0, 0, 0, 0, 0, 0), (1725, .iconst 1, 1726, 0, 0, 0, 0, 0, 0, 0), (1726, .iadd, 1727, 0, 0, 0, 0, 0, 0, 0), (1727, .iaload, 1728, 0, 0, 0, 0, 0, 0, 0), (1728, .invokevirtual 189, 1731, 0, 0, 0, 0, 129, 1357, 0), (1731, .istore 6, 1733, 0, 0, 0, 0, 0, 0, 0), (1733, .aload_n 2, 1734, 0, 0, 0, 0, 0, 0, 0), (1734, .invokevirtual 116, 1737, 0, 0, 0, 0, 71, 1129, 0), (1737, .iload 5, 1739, 0, 0, 0, 0, 0, 0, 0), (1739, .if_icmp .eq 5, 1742, 1744, 1744, 0, 0, 0, 0, 0), (1742, .iconst 0, 1743, 0, 0, 0, 0, 0, 0, 0), (1743, .ireturn, 1744, 0, 0, 0, 0, 0, 0, 0), (1744, .iload 5, 1746, 0, 0, 0, 0, 0, 0, 0), (1746, .ifCond .ne 15, 1749, 1761, 1761, 0, 0, 0, 0, 0), (1749, .aload_n 3, 1750, 0, 0, 0, 0, 0, 0, 0), (1750, .iconst 0, 1751, 0, 0, 0, 0, 0, 0, 0), (1751, .laload, 1752, 0, 0, 0, 0, 0, 0, 0), (1752, .iload 6, 1754, 0, 0, 0, 0, 0, 0, 0), (1754, .i2l, 1755, 0, 0, 0, 0, 0, 0, 0), (1755, .lcmp, 1756, 0, 0, 0, 0, 0, 0, 0), (1756, .ifCond .eq 5, 1759, 1761, 1761, 0, 0, 0, 0, 0), (1759, .iconst 0, 1760, 0, 0, 0, 0, 0, 0, 0), (1760, .ireturn, 1761, 0, 0, 0, 0, 0, 0, 0), (1761, .goto 526, 1764, 2287, 2287, 0, 0, 0, 0, 0)]
theorem tkW_20 : tbW_20.all (cOK RL code) = true := by decide +kernel
set_option maxRecDepth 100000 in
set_option maxHeartbeats 400000 in
theorem law_20 (h0 : LC p l s m args meth c D ad A N xs) {i : Int} (i0 : 0 ≤ i) (i1 : i + 9 < N) (hf : cells + 11 ≤ room_1.cells ∧ slots + 66 ≤ room_1.slots) {a mo : Mm} {o : Int64} (h : FU a mo) (kk : ∀ a' m' o', FU a' m' → Wx p l e room_1 s m args below meth c (cells + 11) (slots + 66) Q lawV D ad A 7 2287 (LL i) [] (mix a' m') o') : Wx p l e room_1 s m args below meth c cells slots Q lawV D ad A 7 1708 (LL i) [] (mix a mo) o := by
  obtain ⟨hC, hN, hT, hR, hst, hX, hb, hN0⟩ := h0
  have hij := hC.2.2.2.2.2.2.2.2.1
  have hIA := h.2.2.2.2.2.2.2.1
  have hMV := FU_MV h
  have hIM := hMV.1
  have hIC := FU_IC h
  have hw26 := h.2.2.2.2.2.1
  have hw45 := h.2.2.2.2.2.2.1
  have hdat := FU_dat h
  refine wpl hC ⟨Nat.le_trans (by omega) hf.1, Nat.le_trans (by omega) hf.2⟩ tkW_20 [1709] 3 ?_
  refine Wx.reads' hC hX hb hN0 rfl rfl i0 law00 [1] 1709 _ (by decide +kernel) (by (repeat' first | exact fun _ h => absurd h List.not_mem_nil | refine List.forall_mem_cons.mpr ⟨?_, ?_⟩) <;> omega) (pc' := 1715) (by decide +kernel) (S' := [xi (scr xs (i + 1)), xr 1 0]) rfl ?_
  have hrd : ∀ (k9 : Int) (a9 : Mm) (o9 : Int64) (c9 s9 : Nat), Wx p l e room_1 s m args below meth c c9 s9 Q lawV D ad A 7 1728 (lset (LL i) 5 (xi k9)) [xi (scr xs (i + 1)), xr 40 0] (mix a9 mo) o9 → Wx p l e room_1 s m args below meth c c9 s9 Q lawV D ad A 7 1722 (lset (LL i) 5 (xi k9)) [xr 40 0] (mix a9 mo) o9 := fun k9 a9 o9 c9 s9 h9 => by
    exact Wx.reads' hC hX hb hN0 rfl rfl i0 law00 [1] 1722 _ (by decide +kernel) (by (repeat' first | exact fun _ h => absurd h List.not_mem_nil | refine List.forall_mem_cons.mpr ⟨?_, ?_⟩) <;> omega) (pc' := 1728) (by decide +kernel) (S' := [xi (scr xs (i + 1)), xr 40 0]) rfl h9
  have w1 := wr_scr xs (i + 1)
  generalize scr xs (i + 1) = p1 at w1 hrd ⊢
  refine wpl hC ⟨Nat.le_trans (by omega) hf.1, Nat.le_trans (by omega) hf.2⟩ tkW_20 [] 3 ?_
  have hc := call_visits h p1
  have hM := W_visits a o p1 w1 hIA
  rw [hc.1] at hM
  refine Wx.lW (y := iL_visits) (avs := [_, _, _]) (rest := []) hC hN hT hR hst tkW_20 rfl rfl rfl kL_visits (by decide +kernel) hM rfl (Nat.zero_le _) (by repeat' first | exact fun _ h => absurd h List.not_mem_nil | exact cl10 | exact cl35 | exact trivial | refine List.forall_mem_cons.mpr ⟨?_, ?_⟩) ⟨Nat.le_trans (by omega) hf.1, Nat.le_trans (by omega) hf.2⟩ ?_
  rintro r a' o' ⟨rfl, rfl, rfl⟩
  refine wpl hC ⟨Nat.le_trans (by omega) hf.1, Nat.le_trans (by omega) hf.2⟩ tkW_20 [1722] 4 ?_
  refine hrd _ _ _ _ _ ?_
  refine Wx.lV (V' := moV) (g := fun m => mix _ m) (y := iX11_visits) (avs := [_]) (rest := []) hC hN (loc_mo _) (Or.inr fun r m' o' hF => hF.2.2.symm) (wf_mo hij) mo40 tkW_20 rfl rfl kX11_visits (by decide +kernel) (M_mvisits p1 _ _ w1 hIM) ⟨rfl, rfl⟩ rfl (Nat.zero_le _) (by repeat' first | exact fun _ h => absurd h List.not_mem_nil | exact trivial | refine List.forall_mem_cons.mpr ⟨?_, ?_⟩) ⟨Nat.le_trans (by omega) hf.1, Nat.le_trans (by omega) hf.2⟩ ?_
  rintro r m' o' ⟨rfl, rfl, rfl⟩
  refine wpl hC ⟨Nat.le_trans (by omega) hf.1, Nat.le_trans (by omega) hf.2⟩ tkW_20 [] 4 ?_
  refine Wx.lV (V' := moV) (g := fun m => mix _ m) (y := iX11_thrown) (avs := []) (rest := []) hC hN (loc_mo _) (Or.inr fun r m' o' hF => hF.2.2.symm) (wf_mo hij) mo40 tkW_20 rfl rfl kX11_thrown (by decide +kernel) (M_thrown _ _) ⟨rfl, rfl⟩ rfl (Nat.zero_le _) (fun _ h => absurd h List.not_mem_nil) ⟨Nat.le_trans (by omega) hf.1, Nat.le_trans (by omega) hf.2⟩ ?_
  rintro r m' o' ⟨rfl, rfl, rfl⟩
  have hfu := fun (c9 : Option String) => md_read (Es := E0) (c := c9) h (by decide)
  refine wpl hC ⟨Nat.le_trans (by omega) hf.1, Nat.le_trans (by omega) hf.2⟩ tkW_20 [2287] 30 ?_
  refine ⟨fun _ => ⟨fun _ => Wx.widen (k := cells + 11) (n := slots + 66) (by omega) (by omega) (Wx.pick [0, 1, 2, 3, 4] rfl (kk _ _ _ (hfu _).1)), fun hk => ?_⟩, fun hne => absurd (congrArg wr ((hfu _).2)) hne⟩
  have hcn := cdX_0 (by decide) hk
  exact ⟨rfl, fun _ => Wx.widen (k := cells + 11) (n := slots + 66) (by omega) (by omega) (Wx.pick [0, 1, 2, 3, 4] rfl (kk _ _ _ (hfu _).1)), fun hne => absurd (cmp0 ((pif_t hcn).trans (congrArg Int32.toInt64 (congrArg I (hc.2 hcn))))) hne⟩
def tbW_21 : CT := [(1764, .aload_n 1, 1765, 0, 0, 0, 0, 0, 0, 0), (1765, .aload_n 0, 1766, 0, 0, 0, 0, 0, 0, 0), (1766, .iload 4, 1768, 0, 0, 0, 0, 0, 0, 0), (1768, .iconst 1, 1769, 0, 0, 0, 0, 0, 0, 0), (1769, .iadd, 1770, 0, 0, 0, 0, 0, 0, 0), (1770, .iaload, 1771, 0, 0, 0, 0, 0, 0, 0), (1771, .aload_n 3, 1772, 0, 0, 0, 0, 0, 0, 0), (1772, .invokestatic 190, 1775, 0, 0, 0, 0, 164, 876, 0), (1775, .istore 5, 1777, 0, 0, 0, 0, 0, 0, 0), (1777, .aload_n 2, 1778, 0, 0, 0, 0, 0, 0, 0), (1778, .aload_n 0, 1779, 0, 0, 0, 0, 0, 0, 0), (1779, .iload 4, 1781, 0, 0, 0, 0, 0, 0, 0), (1781, .iconst 1, 1782, 0, 0, 0, 0, 0, 0, 0), (1782, .iadd, 1783, 0, 0, 0, 0, 0, 0, 0), (1783, .iaload, 1784, 0, 0, 0, 0, 0, 0, 0), (1784, .invokevirtual 192, 1787, 0, 0, 0, 0, 130, 1361, 0), (1787, .istore 6, 1789, 0, 0, 0, 0, 0, 0, 0), (1789, .aload_n 2, 1790, 0, 0, 0, 0, 0, 0, 0), (1790, .invokevirtual 116, 1793, 0, 0, 0, 0, 71, 1129, 0), (1793, .iload 5, 1795, 0, 0, 0, 0, 0, 0, 0), (1795, .if_icmp .eq 5, 1798, 1800, 1800, 0, 0, 0, 0, 0), (1798, .iconst 0, 1799, 0, 0, 0, 0, 0, 0, 0), (1799, .ireturn, 1800, 0, 0, 0, 0, 0, 0, 0), (1800, .iload 5, 1802, 0, 0, 0, 0, 0, 0, 0), (1802, .ifCond .ne 22, 1805, 1824, 1824, 0, 0, 0, 0, 0), (1805, .aload_n 3, 1806, 0, 0, 0, 0, 0, 0, 0), (1806, .iconst 0, 1807, 0, 0, 0, 0, 0, 0, 0), (1807, .laload, 1808, 0, 0, 0, 0, 0, 0, 0), (1808, .iload 6, 1810, 0, 0, 0, 0, 0, 0, 0), (1810, .ifCond .eq 7, 1813, 1817, 1817, 0, 0, 0, 0, 0), (1813, .lconst 1, 1814, 0, 0, 0, 0, 0, 0, 0), (1814, .goto 4, 1817, 1818, 1818, 0, 0, 0, 0, 0), (1817, .lconst 0, 1818, 0, 0, 0, 0, 0, 0, 0), (1818, .lcmp, 1819, 0, 0, 0, 0, 0, 0, 0), (1819, .ifCond .eq 5, 1822, 1824, 1824, 0, 0, 0, 0, 0), (1822, .iconst 0, 1823, 0, 0, 0, 0, 0, 0, 0), (1823, .ireturn, 1824, 0, 0, 0, 0, 0, 0, 0), (1824, .goto 463, 1827, 2287, 2287, 0, 0, 0, 0, 0)]
theorem tkW_21 : tbW_21.all (cOK RL code) = true := by decide +kernel
set_option maxRecDepth 100000 in
set_option maxHeartbeats 400000 in
theorem law_21 (h0 : LC p l s m args meth c D ad A N xs) {i : Int} (i0 : 0 ≤ i) (i1 : i + 9 < N) (hf : cells + 11 ≤ room_1.cells ∧ slots + 66 ≤ room_1.slots) {a mo : Mm} {o : Int64} (h : FU a mo) (kk : ∀ a' m' o', FU a' m' → Wx p l e room_1 s m args below meth c (cells + 11) (slots + 66) Q lawV D ad A 7 2287 (LL i) [] (mix a' m') o') : Wx p l e room_1 s m args below meth c cells slots Q lawV D ad A 7 1764 (LL i) [] (mix a mo) o := by
  obtain ⟨hC, hN, hT, hR, hst, hX, hb, hN0⟩ := h0
  have hij := hC.2.2.2.2.2.2.2.2.1
  have hIA := h.2.2.2.2.2.2.2.1
  have hMV := FU_MV h
  have hIM := hMV.1
  have hIC := FU_IC h
  have hw26 := h.2.2.2.2.2.1
  have hw45 := h.2.2.2.2.2.2.1
  have hdat := FU_dat h
  refine wpl hC ⟨Nat.le_trans (by omega) hf.1, Nat.le_trans (by omega) hf.2⟩ tkW_21 [1765] 3 ?_
  refine Wx.reads' hC hX hb hN0 rfl rfl i0 law00 [1] 1765 _ (by decide +kernel) (by (repeat' first | exact fun _ h => absurd h List.not_mem_nil | refine List.forall_mem_cons.mpr ⟨?_, ?_⟩) <;> omega) (pc' := 1771) (by decide +kernel) (S' := [xi (scr xs (i + 1)), xr 1 0]) rfl ?_
  have hrd : ∀ (k9 : Int) (a9 : Mm) (o9 : Int64) (c9 s9 : Nat), Wx p l e room_1 s m args below meth c c9 s9 Q lawV D ad A 7 1784 (lset (LL i) 5 (xi k9)) [xi (scr xs (i + 1)), xr 40 0] (mix a9 mo) o9 → Wx p l e room_1 s m args below meth c c9 s9 Q lawV D ad A 7 1778 (lset (LL i) 5 (xi k9)) [xr 40 0] (mix a9 mo) o9 := fun k9 a9 o9 c9 s9 h9 => by
    exact Wx.reads' hC hX hb hN0 rfl rfl i0 law00 [1] 1778 _ (by decide +kernel) (by (repeat' first | exact fun _ h => absurd h List.not_mem_nil | refine List.forall_mem_cons.mpr ⟨?_, ?_⟩) <;> omega) (pc' := 1784) (by decide +kernel) (S' := [xi (scr xs (i + 1)), xr 40 0]) rfl h9
  have w1 := wr_scr xs (i + 1)
  generalize scr xs (i + 1) = p1 at w1 hrd ⊢
  refine wpl hC ⟨Nat.le_trans (by omega) hf.1, Nat.le_trans (by omega) hf.2⟩ tkW_21 [] 3 ?_
  have hc := call_served h p1
  have hM := W_served a o p1 w1 hIA (fun a a0 a1 => (h.2.1.1.2.1 a a0 a1).1)
  rw [hc.1] at hM
  refine Wx.lW (y := iL_served) (avs := [_, _, _]) (rest := []) hC hN hT hR hst tkW_21 rfl rfl rfl kL_served (by decide +kernel) hM rfl (Nat.zero_le _) (by repeat' first | exact fun _ h => absurd h List.not_mem_nil | exact cl10 | exact cl35 | exact trivial | refine List.forall_mem_cons.mpr ⟨?_, ?_⟩) ⟨Nat.le_trans (by omega) hf.1, Nat.le_trans (by omega) hf.2⟩ ?_
  rintro r a' o' ⟨rfl, rfl, rfl⟩
  refine wpl hC ⟨Nat.le_trans (by omega) hf.1, Nat.le_trans (by omega) hf.2⟩ tkW_21 [1778] 4 ?_
  refine hrd _ _ _ _ _ ?_
  refine Wx.lV (V' := moV) (g := fun m => mix _ m) (y := iX11_served) (avs := [_]) (rest := []) hC hN (loc_mo _) (Or.inr fun r m' o' hF => hF.2.2.symm) (wf_mo hij) mo40 tkW_21 rfl rfl kX11_served (by decide +kernel) (M_mserved p1 _ _ w1 hIM) ⟨rfl, rfl⟩ rfl (Nat.zero_le _) (by repeat' first | exact fun _ h => absurd h List.not_mem_nil | exact trivial | refine List.forall_mem_cons.mpr ⟨?_, ?_⟩) ⟨Nat.le_trans (by omega) hf.1, Nat.le_trans (by omega) hf.2⟩ ?_
  rintro r m' o' ⟨rfl, rfl, rfl⟩
  refine wpl hC ⟨Nat.le_trans (by omega) hf.1, Nat.le_trans (by omega) hf.2⟩ tkW_21 [] 4 ?_
  refine Wx.lV (V' := moV) (g := fun m => mix _ m) (y := iX11_thrown) (avs := []) (rest := []) hC hN (loc_mo _) (Or.inr fun r m' o' hF => hF.2.2.symm) (wf_mo hij) mo40 tkW_21 rfl rfl kX11_thrown (by decide +kernel) (M_thrown _ _) ⟨rfl, rfl⟩ rfl (Nat.zero_le _) (fun _ h => absurd h List.not_mem_nil) ⟨Nat.le_trans (by omega) hf.1, Nat.le_trans (by omega) hf.2⟩ ?_
  rintro r m' o' ⟨rfl, rfl, rfl⟩
  have hfu := fun (c9 : Option String) => md_read (Es := E0) (c := c9) h (by decide)
  refine wpl hC ⟨Nat.le_trans (by omega) hf.1, Nat.le_trans (by omega) hf.2⟩ tkW_21 [2287] 30 ?_
  refine ⟨fun _ => ⟨fun _ => Wx.widen (k := cells + 11) (n := slots + 66) (by omega) (by omega) (Wx.pick [0, 1, 2, 3, 4] rfl (kk _ _ _ (hfu _).1)), fun hk => ?_⟩, fun hne => absurd (congrArg wr ((hfu _).2)) hne⟩
  have hcn := cdX_0 (by decide) hk
  have h01 := w01 ((h.2.1.1.2.1 _ (ix_of hcn).1 (Int.lt_of_lt_of_le (ix_of hcn).2 hIM.2.2.1.2)).1)
  exact ⟨rfl, fun hb0 => ⟨fun _ => Wx.widen (k := cells + 11) (n := slots + 66) (by omega) (by omega) (Wx.pick [0, 1, 2, 3, 4] rfl (kk _ _ _ (hfu _).1)), fun hne => absurd (cmp0 ((pif_t hcn).trans (i64_0 ((congrArg wr (hc.2 hcn)).trans hb0)).symm)) hne⟩, fun hb0 => ⟨fun _ => Wx.widen (k := cells + 11) (n := slots + 66) (by omega) (by omega) (Wx.pick [0, 1, 2, 3, 4] rfl (kk _ _ _ (hfu _).1)), fun hne => absurd (cmp0 ((pif_t hcn).trans (i64_1 (h01.resolve_left fun q => hb0 ((congrArg wr (hc.2 hcn)).symm.trans q))).symm)) hne⟩⟩
def tbW_22 : CT := [(1827, .aload_n 1, 1828, 0, 0, 0, 0, 0, 0, 0), (1828, .aload_n 0, 1829, 0, 0, 0, 0, 0, 0, 0), (1829, .iload 4, 1831, 0, 0, 0, 0, 0, 0, 0), (1831, .iconst 1, 1832, 0, 0, 0, 0, 0, 0, 0), (1832, .iadd, 1833, 0, 0, 0, 0, 0, 0, 0), (1833, .iaload, 1834, 0, 0, 0, 0, 0, 0, 0), (1834, .aload_n 0, 1835, 0, 0, 0, 0, 0, 0, 0), (1835, .iload 4, 1837, 0, 0, 0, 0, 0, 0, 0), (1837, .iconst 2, 1838, 0, 0, 0, 0, 0, 0, 0), (1838, .iadd, 1839, 0, 0, 0, 0, 0, 0, 0), (1839, .iaload, 1840, 0, 0, 0, 0, 0, 0, 0), (1840, .ifCond .eq 7, 1843, 1847, 1847, 0, 0, 0, 0, 0), (1843, .iconst 1, 1844, 0, 0, 0, 0, 0, 0, 0), (1844, .goto 4, 1847, 1848, 1848, 0, 0, 0, 0, 0), (1847, .iconst 0, 1848, 0, 0, 0, 0, 0, 0, 0), (1848, .aload_n 3, 1849, 0, 0, 0, 0, 0, 0, 0), (1849, .invokestatic 193, 1852, 0, 0, 0, 0, 165, 883, 0), (1852, .istore 5, 1854, 0, 0, 0, 0, 0, 0, 0), (1854, .aload_n 2, 1855, 0, 0, 0, 0, 0, 0, 0), (1855, .aload_n 0, 1856, 0, 0, 0, 0, 0, 0, 0), (1856, .iload 4, 1858, 0, 0, 0, 0, 0, 0, 0), (1858, .iconst 1, 1859, 0, 0, 0, 0, 0, 0, 0), (1859, .iadd, 1860, 0, 0, 0, 0, 0, 0, 0), (1860, .iaload, 1861, 0, 0, 0, 0, 0, 0, 0), (1861, .aload_n 0, 1862, 0, 0, 0, 0, 0, 0, 0), (1862, .iload 4, 1864, 0, 0, 0, 0, 0, 0, 0), (1864, .iconst 2, 1865, 0, 0, 0, 0, 0, 0, 0), (1865, .iadd, 1866, 0, 0, 0, 0, 0, 0, 0), (1866, .iaload, 1867, 0, 0, 0, 0, 0, 0, 0), (1867, .ifCond .eq 7, 1870, 1874, 1874, 0, 0, 0, 0, 0), (1870, .iconst 1, 1871, 0, 0, 0, 0, 0, 0, 0), (1871, .goto 4, 1874, 1875, 1875, 0, 0, 0, 0, 0), (1874, .iconst 0, 1875, 0, 0, 0, 0, 0, 0, 0), (1875, .invokevirtual 196, 1878, 0, 0, 0, 0, 131, 1365, 0), (1878, .istore 6, 1880, 0, 0, 0, 0, 0, 0, 0), (1880, .aload_n 2, 1881, 0, 0, 0, 0, 0, 0, 0), (1881, .invokevirtual 116, 1884, 0, 0, 0, 0, 71, 1129, 0), (1884, .iload 5, 1886, 0, 0, 0, 0, 0, 0, 0), (1886, .if_icmp .eq 5, 1889, 1891, 1891, 0, 0, 0, 0, 0), (1889, .iconst 0, 1890, 0, 0, 0, 0, 0, 0, 0), (1890, .ireturn, 1891, 0, 0, 0, 0, 0, 0, 0), (1891, .iload 5, 1893, 0, 0, 0, 0, 0, 0, 0), (1893, .ifCond .ne 15, 1896, 1908, 1908, 0, 0, 0, 0, 0), (1896, .aload_n 3, 1897, 0, 0, 0, 0, 0, 0, 0), (1897, .iconst 0, 1898, 0, 0, 0, 0, 0, 0, 0), (1898, .laload, 1899, 0, 0, 0, 0, 0, 0, 0), (1899, .iload 6, 1901, 0, 0, 0, 0, 0, 0, 0), (1901, .i2l, 1902, 0, 0, 0, 0, 0, 0, 0), (1902, .lcmp, 1903, 0, 0, 0, 0, 0, 0, 0), (1903, .ifCond .eq 5, 1906, 1908, 1908, 0, 0, 0, 0, 0), (1906, .iconst 0, 1907, 0, 0, 0, 0, 0, 0, 0), (1907, .ireturn, 1908, 0, 0, 0, 0, 0, 0, 0), (1908, .goto 379, 1911, 2287, 2287, 0, 0, 0, 0, 0)]
theorem tkW_22 : tbW_22.all (cOK RL code) = true := by decide +kernel
set_option maxRecDepth 100000 in
set_option maxHeartbeats 400000 in
theorem law_22 (h0 : LC p l s m args meth c D ad A N xs) {i : Int} (i0 : 0 ≤ i) (i1 : i + 9 < N) (hf : cells + 11 ≤ room_1.cells ∧ slots + 66 ≤ room_1.slots) {a mo : Mm} {o : Int64} (h : FU a mo) (kk : ∀ a' m' o', FU a' m' → Wx p l e room_1 s m args below meth c (cells + 11) (slots + 66) Q lawV D ad A 7 2287 (LL i) [] (mix a' m') o') : Wx p l e room_1 s m args below meth c cells slots Q lawV D ad A 7 1827 (LL i) [] (mix a mo) o := by
  obtain ⟨hC, hN, hT, hR, hst, hX, hb, hN0⟩ := h0
  have hij := hC.2.2.2.2.2.2.2.2.1
  have hIA := h.2.2.2.2.2.2.2.1
  have hMV := FU_MV h
  have hIM := hMV.1
  have hIC := FU_IC h
  have hw26 := h.2.2.2.2.2.1
  have hw45 := h.2.2.2.2.2.2.1
  have hdat := FU_dat h
  refine wpl hC ⟨Nat.le_trans (by omega) hf.1, Nat.le_trans (by omega) hf.2⟩ tkW_22 [1828] 3 ?_
  refine Wx.reads' hC hX hb hN0 rfl rfl i0 law00 [1, 2] 1828 _ (by decide +kernel) (by (repeat' first | exact fun _ h => absurd h List.not_mem_nil | refine List.forall_mem_cons.mpr ⟨?_, ?_⟩) <;> omega) (pc' := 1840) (by decide +kernel) (S' := [xi (scr xs (i + 2)), xi (scr xs (i + 1)), xr 1 0]) rfl ?_
  have hrd : ∀ (k9 : Int) (a9 : Mm) (o9 : Int64) (c9 s9 : Nat), Wx p l e room_1 s m args below meth c c9 s9 Q lawV D ad A 7 1867 (lset (LL i) 5 (xi k9)) [xi (scr xs (i + 2)), xi (scr xs (i + 1)), xr 40 0] (mix a9 mo) o9 → Wx p l e room_1 s m args below meth c c9 s9 Q lawV D ad A 7 1855 (lset (LL i) 5 (xi k9)) [xr 40 0] (mix a9 mo) o9 := fun k9 a9 o9 c9 s9 h9 => by
    exact Wx.reads' hC hX hb hN0 rfl rfl i0 law00 [1, 2] 1855 _ (by decide +kernel) (by (repeat' first | exact fun _ h => absurd h List.not_mem_nil | refine List.forall_mem_cons.mpr ⟨?_, ?_⟩) <;> omega) (pc' := 1867) (by decide +kernel) (S' := [xi (scr xs (i + 2)), xi (scr xs (i + 1)), xr 40 0]) rfl h9
  have w1 := wr_scr xs (i + 1)
  have w2 := wr_scr xs (i + 2)
  generalize scr xs (i + 1) = p1 at w1 hrd ⊢
  generalize scr xs (i + 2) = p2 at w2 hrd ⊢
  obtain ⟨zz, hzz⟩ : ∃ zz : Int, zz = pif (wr p2 = 0) 0 1 := ⟨_, rfl⟩
  have wz : wr zz = zz := (Classical.em (wr p2 = 0)).elim (fun q => by rw [hzz, pif_t q]; rfl) (fun q => by rw [hzz, pif_f q]; rfl)
  have hfl1 : ∀ (c9 s9 : Nat) (L9 : List (Nat × AV)) (m9 : Mm) (o9 : Int64), c9 ≤ room_1.cells ∧ s9 ≤ room_1.slots → Wx p l e room_1 s m args below meth c c9 s9 Q lawV D ad A 7 1848 L9 [xi zz, xi p1, xr 1 0] m9 o9 → Wx p l e room_1 s m args below meth c c9 s9 Q lawV D ad A 7 1840 L9 [xi p2, xi p1, xr 1 0] m9 o9 := fun c9 s9 L9 m9 o9 hR9 K9 => wpl hC hR9 tkW_22 [1848] 6 ⟨fun q => by have e9 := hzz.trans (pif_t q); subst e9; exact K9, fun q => by have e9 := hzz.trans (pif_f q); subst e9; exact K9⟩
  have hfl2 : ∀ (c9 s9 : Nat) (L9 : List (Nat × AV)) (m9 : Mm) (o9 : Int64), c9 ≤ room_1.cells ∧ s9 ≤ room_1.slots → Wx p l e room_1 s m args below meth c c9 s9 Q lawV D ad A 7 1875 L9 [xi zz, xi p1, xr 40 0] m9 o9 → Wx p l e room_1 s m args below meth c c9 s9 Q lawV D ad A 7 1867 L9 [xi p2, xi p1, xr 40 0] m9 o9 := fun c9 s9 L9 m9 o9 hR9 K9 => wpl hC hR9 tkW_22 [1875] 6 ⟨fun q => by have e9 := hzz.trans (pif_t q); subst e9; exact K9, fun q => by have e9 := hzz.trans (pif_f q); subst e9; exact K9⟩
  refine hfl1 _ _ _ _ _ ⟨Nat.le_trans (by omega) hf.1, Nat.le_trans (by omega) hf.2⟩ ?_
  refine wpl hC ⟨Nat.le_trans (by omega) hf.1, Nat.le_trans (by omega) hf.2⟩ tkW_22 [] 3 ?_
  have hc := call_slots h p1 zz
  have hM := W_slots a o p1 zz w1 wz 
  refine Wx.lW (y := iL_slots) (avs := [_, _, _, _]) (rest := []) hC hN hT hR hst tkW_22 rfl rfl rfl kL_slots (by decide +kernel) hM rfl (Nat.zero_le _) (by repeat' first | exact fun _ h => absurd h List.not_mem_nil | exact cl10 | exact cl35 | exact trivial | refine List.forall_mem_cons.mpr ⟨?_, ?_⟩) ⟨Nat.le_trans (by omega) hf.1, Nat.le_trans (by omega) hf.2⟩ ?_
  rintro r a' o' ⟨rfl, rfl, rfl⟩
  refine wpl hC ⟨Nat.le_trans (by omega) hf.1, Nat.le_trans (by omega) hf.2⟩ tkW_22 [1855] 4 ?_
  refine hrd _ _ _ _ _ ?_
  refine hfl2 _ _ _ _ _ ⟨Nat.le_trans (by omega) hf.1, Nat.le_trans (by omega) hf.2⟩ ?_
  refine Wx.lV (V' := moV) (g := fun m => mix _ m) (y := iX11_slots) (avs := [_, _]) (rest := []) hC hN (loc_mo _) (Or.inr fun r m' o' hF => hF.2.2.symm) (wf_mo hij) mo40 tkW_22 rfl rfl kX11_slots (by decide +kernel) (M_mslots p1 zz _ _ w1 wz ) ⟨rfl, rfl⟩ rfl (Nat.zero_le _) (by repeat' first | exact fun _ h => absurd h List.not_mem_nil | exact trivial | refine List.forall_mem_cons.mpr ⟨?_, ?_⟩) ⟨Nat.le_trans (by omega) hf.1, Nat.le_trans (by omega) hf.2⟩ ?_
  rintro r m' o' ⟨rfl, rfl, rfl⟩
  refine wpl hC ⟨Nat.le_trans (by omega) hf.1, Nat.le_trans (by omega) hf.2⟩ tkW_22 [] 4 ?_
  refine Wx.lV (V' := moV) (g := fun m => mix _ m) (y := iX11_thrown) (avs := []) (rest := []) hC hN (loc_mo _) (Or.inr fun r m' o' hF => hF.2.2.symm) (wf_mo hij) mo40 tkW_22 rfl rfl kX11_thrown (by decide +kernel) (M_thrown _ _) ⟨rfl, rfl⟩ rfl (Nat.zero_le _) (fun _ h => absurd h List.not_mem_nil) ⟨Nat.le_trans (by omega) hf.1, Nat.le_trans (by omega) hf.2⟩ ?_
  rintro r m' o' ⟨rfl, rfl, rfl⟩
  have hfu := fun (c9 : Option String) => md_read (Es := E0) (c := c9) h (by decide)
  refine wpl hC ⟨Nat.le_trans (by omega) hf.1, Nat.le_trans (by omega) hf.2⟩ tkW_22 [2287] 30 ?_
  refine ⟨fun _ => ⟨fun _ => Wx.widen (k := cells + 11) (n := slots + 66) (by omega) (by omega) (Wx.pick [0, 1, 2, 3, 4] rfl (kk _ _ _ (hfu _).1)), fun hk => ?_⟩, fun hne => absurd (congrArg wr ((hfu _).2)) hne⟩
  have hcn := cdX_0 (by decide) hk
  exact ⟨rfl, fun _ => Wx.widen (k := cells + 11) (n := slots + 66) (by omega) (by omega) (Wx.pick [0, 1, 2, 3, 4] rfl (kk _ _ _ (hfu _).1)), fun hne => absurd (cmp0 ((pif_t hcn).trans (congrArg Int32.toInt64 (congrArg I (hc hcn))))) hne⟩
def tbW_23 : CT := [(1911, .aload_n 1, 1912, 0, 0, 0, 0, 0, 0, 0), (1912, .aload_n 0, 1913, 0, 0, 0, 0, 0, 0, 0), (1913, .iload 4, 1915, 0, 0, 0, 0, 0, 0, 0), (1915, .iconst 1, 1916, 0, 0, 0, 0, 0, 0, 0), (1916, .iadd, 1917, 0, 0, 0, 0, 0, 0, 0), (1917, .iaload, 1918, 0, 0, 0, 0, 0, 0, 0), (1918, .aload_n 0, 1919, 0, 0, 0, 0, 0, 0, 0), (1919, .iload 4, 1921, 0, 0, 0, 0, 0, 0, 0), (1921, .iconst 2, 1922, 0, 0, 0, 0, 0, 0, 0), (1922, .iadd, 1923, 0, 0, 0, 0, 0, 0, 0), (1923, .iaload, 1924, 0, 0, 0, 0, 0, 0, 0), (1924, .ifCond .eq 7, 1927, 1931, 1931, 0, 0, 0, 0, 0), (1927, .iconst 1, 1928, 0, 0, 0, 0, 0, 0, 0), (1928, .goto 4, 1931, 1932, 1932, 0, 0, 0, 0, 0), (1931, .iconst 0, 1932, 0, 0, 0, 0, 0, 0, 0), (1932, .aload_n 3, 1933, 0, 0, 0, 0, 0, 0, 0), (1933, .invokestatic 197, 1936, 0, 0, 0, 0, 166, 890, 0), (1936, .istore 5, 1938, 0, 0, 0, 0, 0, 0, 0), (1938, .aload_n 2, 1939, 0, 0, 0, 0, 0, 0, 0), (1939, .aload_n 0, 1940, 0, 0, 0, 0, 0, 0, 0), (1940, .iload 4, 1942, 0, 0, 0, 0, 0, 0, 0), (1942, .iconst 1, 1943, 0, 0, 0, 0, 0, 0, 0), (1943, .iadd, 1944, 0, 0, 0, 0, 0, 0, 0), (1944, .iaload, 1945, 0, 0, 0, 0, 0, 0, 0), (1945, .aload_n 0, 1946, 0, 0, 0, 0, 0, 0, 0), (1946, .iload 4, 1948, 0, 0, 0, 0, 0, 0, 0), (1948, .iconst 2, 1949, 0, 0, 0, 0, 0, 0, 0), (1949, .iadd, 1950, 0, 0, 0, 0, 0, 0, 0), (1950, .iaload, 1951, 0, 0, 0, 0, 0, 0, 0), (1951, .ifCond .eq 7, 1954, 1958, 1958, 0, 0, 0, 0, 0), (1954, .iconst 1, 1955, 0, 0, 0, 0, 0, 0, 0), (1955, .goto 4, 1958, 1959, 1959, 0, 0, 0, 0, 0), (1958, .iconst 0, 1959, 0, 0, 0, 0, 0, 0, 0), (1959, .invokevirtual 199, 1962, 0, 0, 0, 0, 132, 1369, 0), (1962, .istore 6, 1964, 0, 0, 0, 0, 0, 0, 0), (1964, .aload_n 2, 1965, 0, 0, 0, 0, 0, 0, 0), (1965, .invokevirtual 116, 1968, 0, 0, 0, 0, 71, 1129, 0), (1968, .iload 5, 1970, 0, 0, 0, 0, 0, 0, 0), (1970, .if_icmp .eq 5, 1973, 1975, 1975, 0, 0, 0, 0, 0), (1973, .iconst 0, 1974, 0, 0, 0, 0, 0, 0, 0), (1974, .ireturn, 1975, 0, 0, 0, 0, 0, 0, 0), (1975, .iload 5, 1977, 0, 0, 0, 0, 0, 0, 0), (1977, .ifCond .ne 15, 1980, 1992, 1992, 0, 0, 0, 0, 0), (1980, .aload_n 3, 1981, 0, 0, 0, 0, 0, 0, 0), (1981, .iconst 0, 1982, 0, 0, 0, 0, 0, 0, 0), (1982, .laload, 1983, 0, 0, 0, 0, 0, 0, 0), (1983, .iload 6, 1985, 0, 0, 0, 0, 0, 0, 0), (1985, .i2l, 1986, 0, 0, 0, 0, 0, 0, 0), (1986, .lcmp, 1987, 0, 0, 0, 0, 0, 0, 0), (1987, .ifCond .eq 5, 1990, 1992, 1992, 0, 0, 0, 0, 0), (1990, .iconst 0, 1991, 0, 0, 0, 0, 0, 0, 0), (1991, .ireturn, 1992, 0, 0, 0, 0, 0, 0, 0), (1992, .goto 295, 1995, 2287, 2287, 0, 0, 0, 0, 0)]
theorem tkW_23 : tbW_23.all (cOK RL code) = true := by decide +kernel
set_option maxRecDepth 100000 in
set_option maxHeartbeats 400000 in
theorem law_23 (h0 : LC p l s m args meth c D ad A N xs) {i : Int} (i0 : 0 ≤ i) (i1 : i + 9 < N) (hf : cells + 11 ≤ room_1.cells ∧ slots + 66 ≤ room_1.slots) {a mo : Mm} {o : Int64} (h : FU a mo) (kk : ∀ a' m' o', FU a' m' → Wx p l e room_1 s m args below meth c (cells + 11) (slots + 66) Q lawV D ad A 7 2287 (LL i) [] (mix a' m') o') : Wx p l e room_1 s m args below meth c cells slots Q lawV D ad A 7 1911 (LL i) [] (mix a mo) o := by
  obtain ⟨hC, hN, hT, hR, hst, hX, hb, hN0⟩ := h0
  have hij := hC.2.2.2.2.2.2.2.2.1
  have hIA := h.2.2.2.2.2.2.2.1
  have hMV := FU_MV h
  have hIM := hMV.1
  have hIC := FU_IC h
  have hw26 := h.2.2.2.2.2.1
  have hw45 := h.2.2.2.2.2.2.1
  have hdat := FU_dat h
  refine wpl hC ⟨Nat.le_trans (by omega) hf.1, Nat.le_trans (by omega) hf.2⟩ tkW_23 [1912] 3 ?_
  refine Wx.reads' hC hX hb hN0 rfl rfl i0 law00 [1, 2] 1912 _ (by decide +kernel) (by (repeat' first | exact fun _ h => absurd h List.not_mem_nil | refine List.forall_mem_cons.mpr ⟨?_, ?_⟩) <;> omega) (pc' := 1924) (by decide +kernel) (S' := [xi (scr xs (i + 2)), xi (scr xs (i + 1)), xr 1 0]) rfl ?_
  have hrd : ∀ (k9 : Int) (a9 : Mm) (o9 : Int64) (c9 s9 : Nat), Wx p l e room_1 s m args below meth c c9 s9 Q lawV D ad A 7 1951 (lset (LL i) 5 (xi k9)) [xi (scr xs (i + 2)), xi (scr xs (i + 1)), xr 40 0] (mix a9 mo) o9 → Wx p l e room_1 s m args below meth c c9 s9 Q lawV D ad A 7 1939 (lset (LL i) 5 (xi k9)) [xr 40 0] (mix a9 mo) o9 := fun k9 a9 o9 c9 s9 h9 => by
    exact Wx.reads' hC hX hb hN0 rfl rfl i0 law00 [1, 2] 1939 _ (by decide +kernel) (by (repeat' first | exact fun _ h => absurd h List.not_mem_nil | refine List.forall_mem_cons.mpr ⟨?_, ?_⟩) <;> omega) (pc' := 1951) (by decide +kernel) (S' := [xi (scr xs (i + 2)), xi (scr xs (i + 1)), xr 40 0]) rfl h9
  have w1 := wr_scr xs (i + 1)
  have w2 := wr_scr xs (i + 2)
  generalize scr xs (i + 1) = p1 at w1 hrd ⊢
  generalize scr xs (i + 2) = p2 at w2 hrd ⊢
  obtain ⟨zz, hzz⟩ : ∃ zz : Int, zz = pif (wr p2 = 0) 0 1 := ⟨_, rfl⟩
  have wz : wr zz = zz := (Classical.em (wr p2 = 0)).elim (fun q => by rw [hzz, pif_t q]; rfl) (fun q => by rw [hzz, pif_f q]; rfl)
  have hfl1 : ∀ (c9 s9 : Nat) (L9 : List (Nat × AV)) (m9 : Mm) (o9 : Int64), c9 ≤ room_1.cells ∧ s9 ≤ room_1.slots → Wx p l e room_1 s m args below meth c c9 s9 Q lawV D ad A 7 1932 L9 [xi zz, xi p1, xr 1 0] m9 o9 → Wx p l e room_1 s m args below meth c c9 s9 Q lawV D ad A 7 1924 L9 [xi p2, xi p1, xr 1 0] m9 o9 := fun c9 s9 L9 m9 o9 hR9 K9 => wpl hC hR9 tkW_23 [1932] 6 ⟨fun q => by have e9 := hzz.trans (pif_t q); subst e9; exact K9, fun q => by have e9 := hzz.trans (pif_f q); subst e9; exact K9⟩
  have hfl2 : ∀ (c9 s9 : Nat) (L9 : List (Nat × AV)) (m9 : Mm) (o9 : Int64), c9 ≤ room_1.cells ∧ s9 ≤ room_1.slots → Wx p l e room_1 s m args below meth c c9 s9 Q lawV D ad A 7 1959 L9 [xi zz, xi p1, xr 40 0] m9 o9 → Wx p l e room_1 s m args below meth c c9 s9 Q lawV D ad A 7 1951 L9 [xi p2, xi p1, xr 40 0] m9 o9 := fun c9 s9 L9 m9 o9 hR9 K9 => wpl hC hR9 tkW_23 [1959] 6 ⟨fun q => by have e9 := hzz.trans (pif_t q); subst e9; exact K9, fun q => by have e9 := hzz.trans (pif_f q); subst e9; exact K9⟩
  refine hfl1 _ _ _ _ _ ⟨Nat.le_trans (by omega) hf.1, Nat.le_trans (by omega) hf.2⟩ ?_
  refine wpl hC ⟨Nat.le_trans (by omega) hf.1, Nat.le_trans (by omega) hf.2⟩ tkW_23 [] 3 ?_
  have hc := call_lost h p1 zz
  have hM := W_lost a o p1 zz w1 wz 
  refine Wx.lW (y := iL_lost) (avs := [_, _, _, _]) (rest := []) hC hN hT hR hst tkW_23 rfl rfl rfl kL_lost (by decide +kernel) hM rfl (Nat.zero_le _) (by repeat' first | exact fun _ h => absurd h List.not_mem_nil | exact cl10 | exact cl35 | exact trivial | refine List.forall_mem_cons.mpr ⟨?_, ?_⟩) ⟨Nat.le_trans (by omega) hf.1, Nat.le_trans (by omega) hf.2⟩ ?_
  rintro r a' o' ⟨rfl, rfl, rfl⟩
  refine wpl hC ⟨Nat.le_trans (by omega) hf.1, Nat.le_trans (by omega) hf.2⟩ tkW_23 [1939] 4 ?_
  refine hrd _ _ _ _ _ ?_
  refine hfl2 _ _ _ _ _ ⟨Nat.le_trans (by omega) hf.1, Nat.le_trans (by omega) hf.2⟩ ?_
  refine Wx.lV (V' := moV) (g := fun m => mix _ m) (y := iX11_lost) (avs := [_, _]) (rest := []) hC hN (loc_mo _) (Or.inr fun r m' o' hF => hF.2.2.symm) (wf_mo hij) mo40 tkW_23 rfl rfl kX11_lost (by decide +kernel) (M_mlost p1 zz _ _ w1 wz ) ⟨rfl, rfl⟩ rfl (Nat.zero_le _) (by repeat' first | exact fun _ h => absurd h List.not_mem_nil | exact trivial | refine List.forall_mem_cons.mpr ⟨?_, ?_⟩) ⟨Nat.le_trans (by omega) hf.1, Nat.le_trans (by omega) hf.2⟩ ?_
  rintro r m' o' ⟨rfl, rfl, rfl⟩
  refine wpl hC ⟨Nat.le_trans (by omega) hf.1, Nat.le_trans (by omega) hf.2⟩ tkW_23 [] 4 ?_
  refine Wx.lV (V' := moV) (g := fun m => mix _ m) (y := iX11_thrown) (avs := []) (rest := []) hC hN (loc_mo _) (Or.inr fun r m' o' hF => hF.2.2.symm) (wf_mo hij) mo40 tkW_23 rfl rfl kX11_thrown (by decide +kernel) (M_thrown _ _) ⟨rfl, rfl⟩ rfl (Nat.zero_le _) (fun _ h => absurd h List.not_mem_nil) ⟨Nat.le_trans (by omega) hf.1, Nat.le_trans (by omega) hf.2⟩ ?_
  rintro r m' o' ⟨rfl, rfl, rfl⟩
  have hfu := fun (c9 : Option String) => md_read (Es := E0) (c := c9) h (by decide)
  refine wpl hC ⟨Nat.le_trans (by omega) hf.1, Nat.le_trans (by omega) hf.2⟩ tkW_23 [2287] 30 ?_
  refine ⟨fun _ => ⟨fun _ => Wx.widen (k := cells + 11) (n := slots + 66) (by omega) (by omega) (Wx.pick [0, 1, 2, 3, 4] rfl (kk _ _ _ (hfu _).1)), fun hk => ?_⟩, fun hne => absurd (congrArg wr ((hfu _).2)) hne⟩
  have hcn := cdX_0 (by decide) hk
  exact ⟨rfl, fun _ => Wx.widen (k := cells + 11) (n := slots + 66) (by omega) (by omega) (Wx.pick [0, 1, 2, 3, 4] rfl (kk _ _ _ (hfu _).1)), fun hne => absurd (cmp0 ((pif_t hcn).trans (congrArg Int32.toInt64 (congrArg I (hc hcn))))) hne⟩
def tbW_24 : CT := [(1995, .aload_n 1, 1996, 0, 0, 0, 0, 0, 0, 0), (1996, .invokevirtual 200, 1999, 0, 0, 0, 0, 58, 453, 0), (1999, .aload_n 2, 2000, 0, 0, 0, 0, 0, 0, 0), (2000, .invokevirtual 203, 2003, 0, 0, 0, 0, 133, 1373, 0), (2003, .if_icmp .eq 284, 2006, 2287, 2287, 0, 0, 0, 0, 0), (2006, .iconst 0, 2007, 0, 0, 0, 0, 0, 0, 0), (2007, .ireturn, 2008, 0, 0, 0, 0, 0, 0, 0)]
theorem tkW_24 : tbW_24.all (cOK RL code) = true := by decide +kernel
set_option maxRecDepth 100000 in
set_option maxHeartbeats 400000 in
theorem law_24 (h0 : LC p l s m args meth c D ad A N xs) {i : Int} (i0 : 0 ≤ i) (i1 : i + 9 < N) (hf : cells + 11 ≤ room_1.cells ∧ slots + 66 ≤ room_1.slots) {a mo : Mm} {o : Int64} (h : FU a mo) (kk : ∀ a' m' o', FU a' m' → Wx p l e room_1 s m args below meth c (cells + 11) (slots + 66) Q lawV D ad A 7 2287 (LL i) [] (mix a' m') o') : Wx p l e room_1 s m args below meth c cells slots Q lawV D ad A 7 1995 (LL i) [] (mix a mo) o := by
  obtain ⟨hC, hN, hT, hR, hst, hX, hb, hN0⟩ := h0
  have hij := hC.2.2.2.2.2.2.2.2.1
  refine wpl hC ⟨Nat.le_trans (by omega) hf.1, Nat.le_trans (by omega) hf.2⟩ tkW_24 [] 3 ?_
  refine Wx.lV (V' := clV) (g := fun a => mix a _) (y := iX10_data) (avs := []) (rest := []) hC hN (loc_cl _) (Or.inl fun i h => ⟨by decide, lawV_r h (by decide)⟩) (wf_cl hij) cl10 tkW_24 rfl rfl kX10_data (by decide +kernel) (M_data _ _) ⟨rfl, rfl⟩ rfl (Nat.zero_le _) (fun _ h => absurd h List.not_mem_nil) ⟨Nat.le_trans (by omega) hf.1, Nat.le_trans (by omega) hf.2⟩ ?_
  rintro r a' o' ⟨rfl, rfl, rfl⟩
  refine wpl hC ⟨Nat.le_trans (by omega) hf.1, Nat.le_trans (by omega) hf.2⟩ tkW_24 [] 3 ?_
  refine Wx.lV (V' := moV) (g := fun m => mix _ m) (y := iX11_data) (avs := []) (rest := [_]) hC hN (loc_mo _) (Or.inr fun r m' o' hF => hF.2.2.symm) (wf_mo hij) mo40 tkW_24 rfl rfl kX11_data (by decide +kernel) (M_mdata _ _) ⟨rfl, rfl⟩ rfl (by show (1 : Nat) ≤ 4; decide) (fun _ h => absurd h List.not_mem_nil) ⟨Nat.le_trans (by omega) hf.1, Nat.le_trans (by omega) hf.2⟩ ?_
  rintro r m' o' ⟨rfl, rfl, rfl⟩
  refine wpl hC ⟨Nat.le_trans (by omega) hf.1, Nat.le_trans (by omega) hf.2⟩ tkW_24 [2287] 6 ?_
  exact ⟨fun _ => Wx.widen (k := cells + 11) (n := slots + 66) (by omega) (by omega) (Wx.pick [0, 1, 2, 3, 4] rfl (kk _ _ _ (FU_hold h 0))), fun hne => absurd (congrArg wr (call_data h)) hne⟩
end CTX
