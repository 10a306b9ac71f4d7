/-! ===== the law: its loop ===== -/
/-! THE CLAIM OUT OF ONE WALK OF THE LAW'S BODY. Your part is whole_start (and what it stands on); all else here is the same for every law, but numbers. -/
def R_law : String := "CloudseedLaw"
def lw_P (b : Addr) (xs : List Int32) (args : Array Value) (s : State) : Prop := args = #[.ref b] ∧ s.IntsAt b xs ∧ xs.length ≤ 5120 ∧ (Jvm.Cond.and given_1 narrow_1).before args s = true
def lw_Q (_ : Array Value) (s : State) (o : Outcome) (t : State) : Prop := o = .returned (some (.int 1)) ∧ Framed s o t [] 601024 7293034
def lw_Z (below : List Frame) (a : Array Value) (s : State) : State → Prop := fun t => ∃ o, t.status = .running ∧ Ended t below o ∧ lw_Q a s o t
/-- the law's own end, with 1 on the stack, nothing written that was there before, its room as the claim has it -/
theorem lw_ret {p : Program} {l : Launch} {e : Env} {s : State} {m : MethodId} {below : List Frame} {meth : Method} {c : Code} {b : Nat} (hx : p.tables.exec = Jvm.exec) (hb : c.code = code) (hr : meth.sig.returnType = ret) (hlocks : meth.locks = false) {pc : Nat} {H : Heap} {ls : Array Slot} (hdg : decode code pc = .ok (.ireturn, 1)) : W p l e room_1 s m #[Value.ref b] below meth c H [] 601024 7293034 (lw_Z below #[Value.ref b] s) (F0 m pc ls [.int 1]) := by
  intro T hT X
  obtain ⟨fs, hret, hrun, hended, hW, hframe⟩ := X.leave (v := some (.int 1)) (hlocks := hlocks) (fun h => by rw [hr] at h; cases h)
  have hmeth' : T.vm.method? m = some meth := X.method'
  refine ⟨T.setFrames fs, ?_, .returned (some (.int 1)), hrun, hended, rfl, ⟨_, rfl⟩, hW, hframe⟩
  jvm_step X.here [X.here.top, hx, hb, hdg, hmeth', hr, ret, narrow_b1]
  (try refine ⟨rfl, ?_⟩); (try refine ⟨rfl, ?_⟩)
  first | (intro acts; rw [hret _ acts rfl rfl rfl]) | rw [hret _ _ rfl rfl rfl]
  exact Steps.refl _
/-- what holds at the law's entry: the machine, the code, the tables' words (any of lw_tbl by 'hts w (by decide +kernel)'), the script of L ints xs at the cell b, what the Statement gives of the start (any of its parts by flat_of_before) -/
def lw_At (p : Program) (s : State) (m : MethodId) (meth : Method) (c : Code) (b L : Nat) (xs : Nat → Int32) : Prop :=
  p.tables.exec = Jvm.exec ∧ c.code = code ∧ meth.sig.returnType = ret ∧ c.maxLocals = 7 ∧ s.vm.findClass R_law = some m.cls ∧ (∀ w ∈ lw_tbl, w.before #[Value.ref b] s = true) ∧ va_X b L xs s s.heap ∧ b < s.heap.size ∧ meth.locks = false ∧ (Jvm.Cond.and given_1 narrow_1).before #[Value.ref b] s = true
def tbW_h : CT := [(23, .iload 4, 25, 0, 0, 0, 0, 0, 0, 0), (25, .aload_n 0, 26, 0, 0, 0, 0, 0, 0, 0), (26, .arraylength, 27, 0, 0, 0, 0, 0, 0, 0), (27, .bipush 10, 29, 0, 0, 0, 0, 0, 0, 0), (29, .isub, 30, 0, 0, 0, 0, 0, 0, 0), (30, .if_icmp .gt 2263, 33, 2293, 2293, 0, 0, 0, 0, 0), (33, .aload_n 0, 34, 0, 0, 0, 0, 0, 0, 0), (34, .iload 4, 36, 0, 0, 0, 0, 0, 0, 0), (36, .iaload, 37, 0, 0, 0, 0, 0, 0, 0), (37, .bipush 31, 39, 0, 0, 0, 0, 0, 0, 0), (39, .iand, 40, 0, 0, 0, 0, 0, 0, 0), (2287, .iinc 4 10, 2290, 0, 0, 0, 0, 0, 0, 0), (2290, .goto (-2267), 2293, 23, 23, 0, 0, 0, 0, 0), (2293, .iconst 1, 2294, 0, 0, 0, 0, 0, 0, 0), (2294, .ireturn, 2295, 0, 0, 0, 0, 0, 0, 0)]
theorem tkW_h : tbW_h.all (cOK RL code) = true := by decide +kernel
theorem dec_law40 : decode code 40 = .ok (.tableswitch 2247 0 28 #[132, 192, 248, 332, 404, 484, 571, 675, 731, 811, 879, 971, 1131, 1203, 1363, 1438, 1518, 1574, 1587, 1655, 1668, 1724, 1787, 1871, 1955, 1968, 2036, 2123, 2179], 132) := by decide +kernel
section CTX
variable {p : Program} {l : Launch} {e : Env} {s : State} {m : MethodId} {below : List Frame} {meth : Method} {c : Code} {D : DD} {ad : Nat → Int → Nat} {N : Nat} {xs : Nat → Int32}
theorem law_exit {b : Nat} (hr : meth.sig.returnType = ret) (h0 : LC p l s m #[Value.ref b] meth c D ad (fun q => s.heap.size ≤ q) N xs) {cells slots : Nat} (hRc : cells ≤ room_1.cells ∧ slots ≤ room_1.slots) {i : Int} {mm : Mm} {o : Int64} : Wx p l e room_1 s m #[Value.ref b] below meth c cells slots (lw_Z below #[Value.ref b] s) lawV D ad (fun q => s.heap.size ≤ q) 7 2293 (LL i) [] mm o := by
  obtain ⟨hC, hN, hT, hR, hst, hX, hb, hN0⟩ := id h0
  refine wp_ok (rt := 1) (stops := []) (F := fun r _ _ => r = some (xi 1)) hC hRc tkW_h (fun _ _ _ _ _ h => h) (fun r mm' o' hF => ?_) 5 2293 (LL i) [] mm o ?_
  · subst hF
    intro H locs pc ls hW hS hv
    refine ⟨fun h _ _ => absurd h (by decide), fun z hz hr9 hd => ?_, fun q h _ _ => absurd h (by decide)⟩
    cases hr9
    exact va_forget (fun q hq => hS.2.2 q hq) (w_widen hRc.1 hRc.2 (lw_ret hC.1 hC.2.1 hr hC.2.2.2.2.2.2.2.2.2.2.1 hd))
  · exact rfl
end CTX
section CTX
variable {p : Program} {l : Launch} {e : Env} {s : State} {m : MethodId} {below : List Frame} {meth : Method} {c : Code} {D : DD} {ad : Nat → Int → Nat} {N : Nat} {xs : Nat → Int32}
theorem law_loop {b : Nat} (hr : meth.sig.returnType = ret) (h0 : LC p l s m #[Value.ref b] meth c D ad (fun q => s.heap.size ≤ q) N xs) : ∀ (n : Nat) (i : Int) (cells slots : Nat) (a mo : Mm) (o : Int64), 0 ≤ i → (N : Int) ≤ i + 10 * n + 9 → i < 10000 → cells + 11 * n ≤ room_1.cells → slots + 66 * n ≤ room_1.slots → FU a mo → Wx p l e room_1 s m #[Value.ref b] below meth c cells slots (lw_Z below #[Value.ref b] s) lawV D ad (fun q => s.heap.size ≤ q) 7 23 (LL i) [] (mix a mo) o := by
  obtain ⟨hC, hN, hT, hR, hst, hX, hb, hN0⟩ := id h0
  intro n
  induction n with
  | zero =>
    intro i cells slots a mo o i0 i1 i2 hc hs hFU
    have hRc : cells ≤ room_1.cells ∧ slots ≤ room_1.slots := ⟨by omega, by omega⟩
    refine wpl hC hRc tkW_h [26] 5 ?_
    refine Wx.slen hC hX hb (by decide +kernel) ?_
    refine wpl hC hRc tkW_h [33, 2293] 6 ?_
    refine ⟨fun _ => ?_, fun q => ?_⟩
    · exact law_exit hr h0 hRc
    · rw [wr_of (by omega) (by omega), wr_of (by omega) (by omega)] at q
      omega
  | succ n ih =>
    intro i cells slots a mo o i0 i1 i2 hc hs hFU
    have hRc : cells ≤ room_1.cells ∧ slots ≤ room_1.slots := ⟨by omega, by omega⟩
    refine wpl hC hRc tkW_h [26] 5 ?_
    refine Wx.slen hC hX hb (by decide +kernel) ?_
    refine wpl hC hRc tkW_h [33, 2293] 6 ?_
    refine ⟨fun _ => law_exit hr h0 hRc, fun q => ?_⟩
    rw [wr_of (by omega) (by omega), wr_of (by omega) (by omega)] at q
    have hi9 : i + 9 < (N : Int) := by omega
    refine wpl hC hRc tkW_h [36] 5 ?_
    refine Wx.sld hC hX hb hN0 (by decide +kernel) i0 (by omega) ?_
    refine wpl hC hRc tkW_h [] 4 ?_
    show Wx p l e room_1 s m #[Value.ref b] below meth c cells slots (lw_Z below #[Value.ref b] s) lawV D ad (fun q => s.heap.size ≤ q) 7 40 (LL i) [xi (jand (scr xs i) 31)] (mix a mo) o
    obtain ⟨t0, t1⟩ := and31 (scr xs i)
    generalize jand (scr xs i) 31 = t at t0 t1 ⊢
    have tail : ∀ a' m' o', FU a' m' → Wx p l e room_1 s m #[Value.ref b] below meth c (cells + 11) (slots + 66) (lw_Z below #[Value.ref b] s) lawV D ad (fun q => s.heap.size ≤ q) 7 2287 (LL i) [] (mix a' m') o' := fun a' m' o' h' => by
      refine wpl hC ⟨by omega, by omega⟩ tkW_h [23] 4 ?_
      exact ih (i + 10) (cells + 11) (slots + 66) a' m' o' (by omega) (by omega) (by omega) (by omega) (by omega) h'
    have hf : cells + 11 ≤ room_1.cells ∧ slots + 66 ≤ room_1.slots := ⟨by omega, by omega⟩
    rcases (show wr t = 0 ∨ wr t = 1 ∨ wr t = 2 ∨ wr t = 3 ∨ wr t = 4 ∨ wr t = 5 ∨ wr t = 6 ∨ wr t = 7 ∨ wr t = 8 ∨ wr t = 9 ∨ wr t = 10 ∨ wr t = 11 ∨ wr t = 12 ∨ wr t = 13 ∨ wr t = 14 ∨ wr t = 15 ∨ wr t = 16 ∨ wr t = 17 ∨ wr t = 18 ∨ wr t = 19 ∨ wr t = 20 ∨ wr t = 21 ∨ wr t = 22 ∨ wr t = 23 ∨ wr t = 24 ∨ wr t = 25 ∨ wr t = 26 ∨ wr t = 27 ∨ wr t = 28 ∨ 28 < wr t by omega) with h | h | h | h | h | h | h | h | h | h | h | h | h | h | h | h | h | h | h | h | h | h | h | h | h | h | h | h | h | h
    · exact Wx.tabIn hC dec_law40 (by rw [h]; decide) (by rw [h]; decide) (off := 132) (tgt := 172) (by rw [h]; rfl) (by decide) (law_0 h0 i0 hi9 hf hFU tail)
    · exact Wx.tabIn hC dec_law40 (by rw [h]; decide) (by rw [h]; decide) (off := 192) (tgt := 232) (by rw [h]; rfl) (by decide) (law_1 h0 i0 hi9 hf hFU tail)
    · exact Wx.tabIn hC dec_law40 (by rw [h]; decide) (by rw [h]; decide) (off := 248) (tgt := 288) (by rw [h]; rfl) (by decide) (law_2 h0 i0 hi9 hf hFU tail)
    · exact Wx.tabIn hC dec_law40 (by rw [h]; decide) (by rw [h]; decide) (off := 332) (tgt := 372) (by rw [h]; rfl) (by decide) (law_3 h0 i0 hi9 hf hFU tail)
    · exact Wx.tabIn hC dec_law40 (by rw [h]; decide) (by rw [h]; decide) (off := 404) (tgt := 444) (by rw [h]; rfl) (by decide) (law_4 h0 i0 hi9 hf hFU tail)
    · exact Wx.tabIn hC dec_law40 (by rw [h]; decide) (by rw [h]; decide) (off := 484) (tgt := 524) (by rw [h]; rfl) (by decide) (law_5 h0 i0 hi9 hf hFU tail)
    · exact Wx.tabIn hC dec_law40 (by rw [h]; decide) (by rw [h]; decide) (off := 571) (tgt := 611) (by rw [h]; rfl) (by decide) (law_6 h0 i0 hi9 hf hFU tail)
    · exact Wx.tabIn hC dec_law40 (by rw [h]; decide) (by rw [h]; decide) (off := 675) (tgt := 715) (by rw [h]; rfl) (by decide) (law_7 h0 i0 hi9 hf hFU tail)
    · exact Wx.tabIn hC dec_law40 (by rw [h]; decide) (by rw [h]; decide) (off := 731) (tgt := 771) (by rw [h]; rfl) (by decide) (law_8 h0 i0 hi9 hf hFU tail)
    · exact Wx.tabIn hC dec_law40 (by rw [h]; decide) (by rw [h]; decide) (off := 811) (tgt := 851) (by rw [h]; rfl) (by decide) (law_9 h0 i0 hi9 hf hFU tail)
    · exact Wx.tabIn hC dec_law40 (by rw [h]; decide) (by rw [h]; decide) (off := 879) (tgt := 919) (by rw [h]; rfl) (by decide) (law_10 h0 i0 hi9 hf hFU tail)
    · exact Wx.tabIn hC dec_law40 (by rw [h]; decide) (by rw [h]; decide) (off := 971) (tgt := 1011) (by rw [h]; rfl) (by decide) (law_11 h0 i0 hi9 hf hFU tail)
    · exact Wx.tabIn hC dec_law40 (by rw [h]; decide) (by rw [h]; decide) (off := 1131) (tgt := 1171) (by rw [h]; rfl) (by decide) (law_12 h0 i0 hi9 hf hFU tail)
    · exact Wx.tabIn hC dec_law40 (by rw [h]; decide) (by rw [h]; decide) (off := 1203) (tgt := 1243) (by rw [h]; rfl) (by decide) (law_13 h0 i0 hi9 hf hFU tail)
    · exact Wx.tabIn hC dec_law40 (by rw [h]; decide) (by rw [h]; decide) (off := 1363) (tgt := 1403) (by rw [h]; rfl) (by decide) (law_14 h0 i0 hi9 hf hFU tail)
    · exact Wx.tabIn hC dec_law40 (by rw [h]; decide) (by rw [h]; decide) (off := 1438) (tgt := 1478) (by rw [h]; rfl) (by decide) (law_15 h0 i0 hi9 hf hFU tail)
    · exact Wx.tabIn hC dec_law40 (by rw [h]; decide) (by rw [h]; decide) (off := 1518) (tgt := 1558) (by rw [h]; rfl) (by decide) (law_16 h0 i0 hi9 hf hFU tail)
    · exact Wx.tabIn hC dec_law40 (by rw [h]; decide) (by rw [h]; decide) (off := 1574) (tgt := 1614) (by rw [h]; rfl) (by decide) (law_17 h0 i0 hi9 hf hFU tail)
    · exact Wx.tabIn hC dec_law40 (by rw [h]; decide) (by rw [h]; decide) (off := 1587) (tgt := 1627) (by rw [h]; rfl) (by decide) (law_18 h0 i0 hi9 hf hFU tail)
    · exact Wx.tabIn hC dec_law40 (by rw [h]; decide) (by rw [h]; decide) (off := 1655) (tgt := 1695) (by rw [h]; rfl) (by decide) (law_19 h0 i0 hi9 hf hFU tail)
    · exact Wx.tabIn hC dec_law40 (by rw [h]; decide) (by rw [h]; decide) (off := 1668) (tgt := 1708) (by rw [h]; rfl) (by decide) (law_20 h0 i0 hi9 hf hFU tail)
    · exact Wx.tabIn hC dec_law40 (by rw [h]; decide) (by rw [h]; decide) (off := 1724) (tgt := 1764) (by rw [h]; rfl) (by decide) (law_21 h0 i0 hi9 hf hFU tail)
    · exact Wx.tabIn hC dec_law40 (by rw [h]; decide) (by rw [h]; decide) (off := 1787) (tgt := 1827) (by rw [h]; rfl) (by decide) (law_22 h0 i0 hi9 hf hFU tail)
    · exact Wx.tabIn hC dec_law40 (by rw [h]; decide) (by rw [h]; decide) (off := 1871) (tgt := 1911) (by rw [h]; rfl) (by decide) (law_23 h0 i0 hi9 hf hFU tail)
    · exact Wx.tabIn hC dec_law40 (by rw [h]; decide) (by rw [h]; decide) (off := 1955) (tgt := 1995) (by rw [h]; rfl) (by decide) (law_24 h0 i0 hi9 hf hFU tail)
    · exact Wx.tabIn hC dec_law40 (by rw [h]; decide) (by rw [h]; decide) (off := 1968) (tgt := 2008) (by rw [h]; rfl) (by decide) (law_25 h0 i0 hi9 hf hFU tail)
    · exact Wx.tabIn hC dec_law40 (by rw [h]; decide) (by rw [h]; decide) (off := 2036) (tgt := 2076) (by rw [h]; rfl) (by decide) (law_26 h0 i0 hi9 hf hFU tail)
    · exact Wx.tabIn hC dec_law40 (by rw [h]; decide) (by rw [h]; decide) (off := 2123) (tgt := 2163) (by rw [h]; rfl) (by decide) (law_27 h0 i0 hi9 hf hFU tail)
    · exact Wx.tabIn hC dec_law40 (by rw [h]; decide) (by rw [h]; decide) (off := 2179) (tgt := 2219) (by rw [h]; rfl) (by decide) (law_28 h0 i0 hi9 hf hFU tail)
    · exact Wx.tabOut hC dec_law40 (Or.inr h) (tgt := 2287) (by decide) (Wx.widen (k := cells + 11) (n := slots + 66) (by omega) (by omega) (tail a mo o hFU))
end CTX
