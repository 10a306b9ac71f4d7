/-! ===== methods that may throw: contracts, throws, returns, calls ===== -/
def tNs : List String := ["java/lang/RuntimeException", "java/lang/Exception"]
def xIx : String := "java/lang/IndexOutOfBoundsException"
def xIa : String := "java/lang/IllegalArgumentException"
def xIs : String := "java/lang/IllegalStateException"
def tB : List Cond := [.declares (Bundle.initS "java/lang/RuntimeException"), .declares (Bundle.initS "java/lang/Exception"), .declares (Bundle.initS Bundle.tN), .castable xIx xIx, .castable xIa xIa, .castable xIs xIs]
theorem tB_warm {s U : State} (hW : s.WarmedH U.vm) (h : ∀ w ∈ tB, va_Nw w s) : ∀ w ∈ tB, va_Nw w U := by
  intro w hw
  have h0 := h w hw
  unfold tB at hw
  simp only [List.mem_cons, List.not_mem_nil, or_false] at hw
  rcases hw with rfl | rfl | rfl | rfl | rfl | rfl
  · exact h0.warmD hW
  · exact h0.warmD hW
  · exact h0.warmD hW
  · exact h0.warmC hW
  · exact h0.warmC hW
  · exact h0.warmC hW
theorem tB_use {s : State} {args : Array Value} (h : ∀ w ∈ tB, va_Nw w s) : ∀ w ∈ tB, w.before args s = true := by
  intro w hw
  have h0 := h w hw
  unfold tB at hw
  simp only [List.mem_cons, List.not_mem_nil, or_false] at hw
  rcases hw with rfl | rfl | rfl | rfl | rfl | rfl <;> exact h0.use rfl
theorem tB_same {u U : State} (hv : u.vm = U.vm) (h : ∀ w ∈ tB, va_Nw w u) : ∀ w ∈ tB, va_Nw w U := by
  intro w hw
  have h0 := h w hw
  unfold tB at hw
  simp only [List.mem_cons, List.not_mem_nil, or_false] at hw
  rcases hw with rfl | rfl | rfl | rfl | rfl | rfl <;> exact h0.same rfl hv
/-- what a throw asks of the state: A holds the cells that may change -/
def wThr (A : Nat → Prop) (U : State) : Prop := ((∃ a, vk_R RX10 293 "there is no such number" a U) ∧ (∃ a, vk_R RX10 300 "an argument is out of range" a U) ∧ (∃ a, vk_R RX10 303 "the last slot is ahead of the first one" a U) ∧ (∃ a, vk_R RX10 307 "this can't be done now" a U)) ∧ (∀ w ∈ tB, va_Nw w U) ∧
  vx_Zq Bundle.tN "UNASSIGNED_STACK" Bundle.steD A U U.heap ∧ vx_Zq Bundle.tN "SUPPRESSED_SENTINEL" Bundle.listD A U U.heap
theorem wThr.call {A B : Nat → Prop} {s U : State} {H : Heap} {locs : List Loc} (h : wThr A s) (hS : va_S A s.heap H locs) (hW : s.WarmedH U.vm) (hU : U.heap = H) (hB : ∀ q, B q → A q) : wThr B U := by
  obtain ⟨⟨⟨a0, h0⟩, ⟨a1, h1⟩, ⟨a2, h2⟩, ⟨a3, h3⟩⟩, hb, hz1, hz2⟩ := h
  refine ⟨⟨⟨a0, h0.warm hW⟩, ⟨a1, h1.warm hW⟩, ⟨a2, h2.warm hW⟩, ⟨a3, h3.warm hW⟩⟩, tB_warm hW hb, ?_, ?_⟩
  · rw [hU]; exact (vx_Zq.moved hW.alike (hz1.kept hS.2.1)).narrow hB
  · rw [hU]; exact (vx_Zq.moved hW.alike (hz2.kept hS.2.1)).narrow hB
abbrev XT : Type := String → Mm → Int64 → Prop
def mrmT (y : MI) (k : Nat) : Room := { frames := y.2.2.2.2.2.1, cells := k, slots := 6 * k, locals := y.2.2.2.2.2.2 }
def xX (V : Nat → Int → Prop) (D : DD) (ad : Nat → Int → Nat) (G : XT) (sz : Nat) : String → State → State → Prop := fun E st t => (∃ mm o, G E mm o ∧ wOK V D ad mm o t.heap) ∧ va_F (wA V ad sz) st t
def xPT (V : Nat → Int → Prop) (D : DD) (ad : Nat → Int → Nat) (avs : List AV) (mm : Mm) (o : Int64) (sz : Nat) : Array Value → State → Prop := va_Pc (avs.map (cv ad)) (fun U => xB V D ad mm o sz U ∧ wThr (wA V ad sz) U)
def MetT (y : MI) (k : Nat) (avs : List AV) (mm : Mm) (o : Int64) (F : FT) (G : XT) : Prop := ∀ (l : Launch) (V : Nat → Int → Prop) (D : DD) (ad : Nat → Int → Nat) (sz : Nat), l.stackTraces = false → WF V ad → (∀ v ∈ avs, okl V v) → vx_Met l y.1 (mws y) (mrmT y k) (xPT V D ad avs mm o sz) (xQ V D ad F sz) (xX V D ad G sz) k (6 * k) (wA V ad sz)
def TQ (below : List Frame) (V : Nat → Int → Prop) (D : DD) (ad : Nat → Int → Nat) (F : FT) (G : XT) (args : Array Value) (s : State) (k : Nat) : State → Prop := vx_MQ below (xQ V D ad F s.heap.size) (xX V D ad G s.heap.size) args s k (6 * k) (wA V ad s.heap.size)
theorem xPT_blind {V : Nat → Int → Prop} {D : DD} {ad : Nat → Int → Nat} {avs : List AV} {mm : Mm} {o : Int64} {sz : Nat} : FrameBlind (xPT V D ad avs mm o sz) := by
  intro a U g mk h
  obtain ⟨h0, ⟨h1, h2, h3, h4⟩, ⟨⟨⟨a0, q0⟩, ⟨a1, q1⟩, ⟨a2, q2⟩, ⟨a3, q3⟩⟩, hb, hz1, hz2⟩⟩ := h
  exact ⟨h0, ⟨h1, h2, va_K.moved (u := U) (U := U.calling g mk a) (Vm.Alike.refl U.vm) h3, h4.1.same rfl rfl, h4.2.same rfl rfl⟩, ⟨⟨a0, q0.same rfl⟩, ⟨a1, q1.same rfl⟩, ⟨a2, q2.same rfl⟩, ⟨a3, q3.same rfl⟩⟩, tB_same (u := U) (U := U.calling g mk a) rfl hb,
    vx_Zq.moved (u := U) (U := U.calling g mk a) (Vm.Alike.refl U.vm) hz1, vx_Zq.moved (u := U) (U := U.calling g mk a) (Vm.Alike.refl U.vm) hz2⟩
section CTX
variable {p : Program} {l : Launch} {e : Env} {R : Room} {s : State} {m : MethodId} {args : Array Value} {below : List Frame} {meth : Method} {c : Code} {cells slots : Nat} {Q : State → Prop} {V : Nat → Int → Prop} {D : DD} {ad : Nat → Int → Nat} {A : Nat → Prop} {nL : Nat} {own : String} {cc : ByteArray}
theorem w_widen {H : Heap} {locs : List Loc} {g : JFrame} {k n : Nat} (h1 : cells ≤ k) (h2 : slots ≤ n) (kk : W p l e R s m args below meth c H locs k n Q g) : W p l e R s m args below meth c H locs cells slots Q g := fun T hT X => kk T hT (stand_widen X h1 h2)
theorem MetT.of {y : MI} {k : Nat} {avs : List AV} {mm : Mm} {o : Int64} {F : FT} {G : XT} (rt : Nat) (hy : plainName y.1.cls = true) (hrt : rtOK rt y.2.2.2.1 = true) (hlen : avs.length ≤ y.2.2.1) (hfr : 1 ≤ y.2.2.2.2.2.1 ∧ 21 ≤ y.2.2.2.2.2.2)
    (body : ∀ (p : Program) (l : Launch) (e : Env) (s : State) (m : MethodId) (args : Array Value) (below : List Frame) (meth : Method) (c : Code) (V : Nat → Int → Prop) (D : DD) (ad : Nat → Int → Nat), Cx V y.1.cls y.2.1 y.2.2.1 p (mrmT y k) s m args meth c D ad (wA V ad s.heap.size) → wNest s → wThr (wA V ad s.heap.size) s → l.stackTraces = false → (∀ x ∈ c.exceptionTable.toList, False) → (∀ v ∈ avs, okl V v) →
      (∀ n, n ≤ k → ∀ r mm o, F r mm o → rOK p l e (mrmT y k) s m args below meth c n (6 * n) (TQ below V D ad F G args s k) V D ad (wA V ad s.heap.size) y.2.1 rt r mm o) → Wx p l e (mrmT y k) s m args below meth c 0 0 (TQ below V D ad F G args s k) V D ad (wA V ad s.heap.size) y.2.2.1 0 (lent 0 avs) [] mm o) : MetT y k avs mm o F G := by
  intro l V D ad sz hst hWF hok
  refine vx_ofW (cc := y.2.1) (maxL := y.2.2.1) (ret := y.2.2.2.1) hy rfl ?_
  intro p e s m args below meth c s₁ B hml hex hv
  obtain ⟨rfl, ⟨hsz, hW, hK, hN⟩, hT⟩ := hv
  have hx := B.exec
  have hb := B.bytes
  have hr := B.returns
  have hts := atoms_spec (ws := mws y) B.pre
  have hown : s.vm.findClass y.1.cls = some m.cls := findClass_of_methodNamed B.named
  have hlocks := B.notSynchronized
  subst hsz
  have hC : Cx V y.1.cls y.2.1 y.2.2.1 p (mrmT y k) s m ((avs.map (cv ad)).toArray) meth c D ad (wA V ad s.heap.size) :=
    ⟨hx, hb, hml, hown, fun w hw => hts w (List.mem_cons_of_mem _ hw), hK, fun k i h hk => Or.inl ⟨k, i, h, hk, rfl⟩, fun q h => Or.inr h, hWF.1, hWF.2, hlocks, hfr.1, hfr.2⟩
  have hbody := body p l e s m ((avs.map (cv ad)).toArray) below meth c V D ad hC hN hT hst hex hok ?_
  · have hl := lv_entry (avs.map (cv ad)) (n := y.2.2.1) (by rw [lent_len avs hok]; exact hlen)
    rw [lg_entry_eq]
    rw [lent_args avs 0 hok] at hl
    exact hbody s.heap [] _ hW va_S.rf hl (lent_ok avs 0 hok) (fun v h => by cases h)
  · intro n hn r mm' o' hF H locs pc ls hW' hS' hv'
    refine ⟨fun h0 hr0 hd => ?_, fun z hz hr0 hd => ?_, fun q h3 hr0 hd => ?_⟩
    · subst h0; subst hr0
      have hret : meth.sig.returnType = none := by
        rw [hr]
        cases h : y.2.2.2.1 with
        | none => rfl
        | some t => rw [h] at hrt; cases t <;> cases hrt
      exact w_widen hn (Nat.mul_le_mul_left 6 hn) (vx_ret (W.vret hx hb hret (fun t ht hWt => ⟨⟨none, mm', o', rfl, hv', hF, by rw [ht]; exact hW'⟩, hS'.F ht⟩) hS'.2.2 hd))
    · subst hr0
      rcases hz with rfl | ⟨rfl, h01⟩
      · have hret : meth.sig.returnType = some .int := by
          rw [hr]
          cases h : y.2.2.2.1 with
          | none => rw [h] at hrt; cases hrt
          | some t => rw [h] at hrt; cases t <;> first | rfl | cases hrt
        exact w_widen hn (Nat.mul_le_mul_left 6 hn) (vx_ret (W.iret hx hb hret (fun t ht hWt => ⟨⟨some (xi z), mm', o', rfl, hv', hF, by rw [ht]; exact hW'⟩, hS'.F ht⟩) hS'.2.2 hd))
      · have hret : meth.sig.returnType = some .boolean := by
          rw [hr]
          cases h : y.2.2.2.1 with
          | none => rw [h] at hrt; cases hrt
          | some t => rw [h] at hrt; cases t <;> first | rfl | cases hrt
        refine w_widen hn (Nat.mul_le_mul_left 6 hn) (vx_ret (W.zret hx hb hret ?_ (fun t ht hWt => ⟨⟨some (xi z), mm', o', rfl, hv', hF, by rw [ht]; exact hW'⟩, hS'.F ht⟩) hS'.2.2 hd))
        rcases h01 with rfl | rfl <;> decide +kernel
    · subst hr0; subst h3
      have hret : ∃ n, meth.sig.returnType = some (.object n) := by
        rw [hr]
        cases h : y.2.2.2.1 with
        | none => rw [h] at hrt; cases hrt
        | some t => rw [h] at hrt; cases t <;> first | exact ⟨_, rfl⟩ | cases hrt
      obtain ⟨n', hret⟩ := hret
      exact w_widen hn (Nat.mul_le_mul_left 6 hn) (vx_ret (W.aret hx hb hret (Or.inl ⟨n', rfl⟩) (Or.inr ⟨_, rfl⟩) (fun t ht hWt => ⟨⟨some (.inr (.inr q)), mm', o', rfl, hv', hF, by rw [ht]; exact hW'⟩, hS'.F ht⟩) hS'.2.2 hd))
theorem tw_in {i j : Nat} {w : Cond} (h : lw_tbl[i]? = some w) (g : goodWord w = true) (hts : ∀ w ∈ UW, w.before args s = true) : w.before args s = true := hts _ (uw i h g)
/-- the three throws of the class: row of 'new', of the text, of the constructor, class and text -/
def tRow (r : Nat) : Nat × Nat × Nat × String × String := bif Nat.beq r 0 then (291, 293, 295, xIx, "there is no such number") else bif Nat.beq r 1 then (298, 300, 302, xIa, "an argument is out of range") else bif Nat.beq r 2 then (298, 303, 302, xIa, "the last slot is ahead of the first one") else (305, 307, 309, xIs, "this can't be done now")
def tP0 : List Nat := [14, 429, 438, 442, 445, 447, 430, 431, 29, 30, 432, 437, 443, 463, 419, 464, 421, 465, 423, 433, 435, 425, 459, 460, 462, 425, 450, 451, 452, 453, 453, 454, 455, 456, 456, 457, 458, 459, 449, 408, 416, 417, 418, 420, 422, 424, 428, 427, 426]
def tP1 : List Nat := [14, 429, 438, 442, 445, 447, 430, 431, 29, 30, 432, 437, 443, 463, 419, 464, 421, 465, 423, 433, 435, 425, 459, 460, 462, 425, 493, 494, 495, 453, 453, 454, 455, 456, 456, 457, 458, 459, 492, 483, 485, 440, 486, 487, 488, 489, 428, 427, 490]
def tP2 : List Nat := [14, 429, 438, 442, 445, 447, 430, 431, 29, 30, 432, 437, 443, 463, 419, 464, 421, 465, 423, 433, 435, 425, 459, 460, 462, 425, 679, 680, 681, 453, 453, 454, 455, 456, 456, 457, 458, 459, 678, 669, 671, 441, 672, 673, 674, 675, 428, 427, 676]
theorem tG0 : GoodIn lw_tbl ((vx_atS RX10 295 xIx tNs).filter goodWord) := goodIn_r _ tP0 (by decide +kernel) (by decide +kernel)
theorem tG1 : GoodIn lw_tbl ((vx_atS RX10 302 xIa tNs).filter goodWord) := goodIn_r _ tP1 (by decide +kernel) (by decide +kernel)
theorem tG2 : GoodIn lw_tbl ((vx_atS RX10 309 xIs tNs).filter goodWord) := goodIn_r _ tP2 (by decide +kernel) (by decide +kernel)
theorem tN0 : ∀ w ∈ (vx_atS RX10 295 xIx tNs).filter (fun w => !goodWord w), w ∈ tB := by decide +kernel
theorem tN1 : ∀ w ∈ (vx_atS RX10 302 xIa tNs).filter (fun w => !goodWord w), w ∈ tB := by decide +kernel
theorem tN2 : ∀ w ∈ (vx_atS RX10 309 xIs tNs).filter (fun w => !goodWord w), w ∈ tB := by decide +kernel
theorem tO0 : ∀ w ∈ Cond.classLink RX10 291 xIx :: Cond.initialized xIx :: vx_atS RX10 295 xIx tNs, vx_ot w = true := by decide +kernel
theorem tO1 : ∀ w ∈ Cond.classLink RX10 298 xIa :: Cond.initialized xIa :: vx_atS RX10 302 xIa tNs, vx_ot w = true := by decide +kernel
theorem tO2 : ∀ w ∈ Cond.classLink RX10 305 xIs :: Cond.initialized xIs :: vx_atS RX10 309 xIs tNs, vx_ot w = true := by decide +kernel
theorem tL : lw_tbl[407]? = some (Cond.classLink RX10 291 xIx) ∧ lw_tbl[482]? = some (Cond.classLink RX10 298 xIa) ∧ lw_tbl[668]? = some (Cond.classLink RX10 305 xIs) ∧ lw_tbl[17]? = some (Cond.initialized xIx) ∧ lw_tbl[18]? = some (Cond.initialized xIa) ∧ lw_tbl[19]? = some (Cond.initialized xIs) := by decide +kernel
theorem tF0 : Bundle.fit xIx = true ∧ Bundle.fit xIa = true ∧ Bundle.fit xIs = true ∧ (∀ n ∈ tNs, Bundle.fit n = true) := by decide +kernel
theorem tGood {L : List Cond} (h : GoodIn lw_tbl (L.filter goodWord)) (hts : ∀ w ∈ UW, w.before args s = true) : ∀ w ∈ L.filter goodWord, w.before args s = true := fun w hw => hts w (List.mem_filter.mpr ⟨(h w hw).1, (List.mem_filter.mp hw).2⟩)
/-- what a throw of row r asks, found in the state -/
def tAsk (r : Nat) (args : Array Value) (s : State) : Prop := Bundle.fit (tRow r).2.2.2.1 = true ∧ (Cond.classLink RX10 (tRow r).1 (tRow r).2.2.2.1).before args s = true ∧ (Cond.initialized (tRow r).2.2.2.1).before args s = true ∧ (∃ a, vk_R RX10 (tRow r).2.1 (tRow r).2.2.2.2 a s) ∧ (∀ w ∈ vx_atS RX10 (tRow r).2.2.1 (tRow r).2.2.2.1 tNs, w.before args s = true) ∧ (∀ w ∈ Cond.classLink RX10 (tRow r).1 (tRow r).2.2.2.1 :: Cond.initialized (tRow r).2.2.2.1 :: vx_atS RX10 (tRow r).2.2.1 (tRow r).2.2.2.1 tNs, vx_ot w = true)
theorem tAsk_of (hts : ∀ w ∈ UW, w.before args s = true) (hT : wThr A s) {r : Nat} (hr : r < 4) : tAsk r args s := by
  obtain ⟨⟨h0, h1, h2, h3⟩, hb, -, -⟩ := hT
  obtain ⟨l0, l1, l2, l3, l4, l5⟩ := tL
  obtain ⟨f0, f1, f2, -⟩ := tF0
  rcases (show r = 0 ∨ r = 1 ∨ r = 2 ∨ r = 3 by omega) with rfl | rfl | rfl | rfl
  · exact ⟨f0, hts _ (uw 407 l0 rfl), hts _ (uw 17 l3 rfl), h0, vx_hat (tGood tG0 hts) tN0 (tB_use hb), tO0⟩
  · exact ⟨f1, hts _ (uw 482 l1 rfl), hts _ (uw 18 l4 rfl), h1, vx_hat (tGood tG1 hts) tN1 (tB_use hb), tO1⟩
  · exact ⟨f1, hts _ (uw 482 l1 rfl), hts _ (uw 18 l4 rfl), h2, vx_hat (tGood tG1 hts) tN1 (tB_use hb), tO1⟩
  · exact ⟨f2, hts _ (uw 668 l2 rfl), hts _ (uw 19 l5 rfl), h3, vx_hat (tGood tG2 hts) tN2 (tB_use hb), tO2⟩
theorem Wx.throw {y : MI} {k n r pc : Nat} {F : FT} {G : XT} {L : List (Nat × AV)} {mm : Mm} {o : Int64} (hC : Cx V RX10 cc nL p (mrmT y k) s m args meth c D ad (wA V ad s.heap.size)) (hT : wThr (wA V ad s.heap.size) s) (hl : l.stackTraces = false) (hex : ∀ x ∈ c.exceptionTable.toList, False) (hr : r < 4)
    (d0 : decode cc pc = .ok (.new (tRow r).1, 3)) (d3 : decode cc (pc + 3) = .ok (.dup, 1)) (d4 : decode cc (pc + 4) = .ok (.ldc_w (tRow r).2.1, 3)) (d7 : decode cc (pc + 7) = .ok (.invokespecial (tRow r).2.2.1, 3)) (d10 : decode cc (pc + 10) = .ok (.athrow, 1))
    (hfr : 5 < y.2.2.2.2.2.1 ∧ 82 ≤ y.2.2.2.2.2.2) (hn : n + 1 ≤ k) (hG : G (tRow r).2.2.2.1 mm o) : Wx p l e (mrmT y k) s m args below meth c n (6 * n) (TQ below V D ad F G args s k) V D ad (wA V ad s.heap.size) nL pc L [] mm o := by
  intro H locs ls hW hS hls hL hv
  have hlk := hC.2.2.2.2.2.2.2.2.2.2.1
  obtain ⟨hx, hb, hml, hown, hts, -⟩ := hC
  obtain ⟨hfit, hk, hini, ⟨sa, hstr⟩, hat, hot⟩ := tAsk_of hts hT hr
  exact vx_throwSW hx hb hl hown hfit tF0.2.2.2 hk hini hstr hat hot hT.2.2.1 hT.2.2.2 hS (hls.1.trans hml.symm) d0 d3 d4 d7 d10 (fun x hx9 => (hex x hx9).elim) hfr.1 (by show 0 + (13 * (2 + 1) + 43) ≤ y.2.2.2.2.2.2; omega) (by show n + 1 ≤ k; exact hn) (by show 6 * n + 6 ≤ 6 * k; omega) hlk
    (fun t hal hsz hkeep => ⟨⟨mm, o, hG, fun k' i' hV' => by
      by_cases hk0 : kt k' = 0
      · have h := hW k' i' hV'
        unfold cellOK at h ⊢
        simp only [hk0] at h ⊢
        exact h
      · exact cell_keep (hW k' i' hV') (hkeep _ (lt_of_wOK hW hV' hk0)) (fun _ => rfl) (fun _ => rfl)⟩, Nat.le_trans hS.1 hsz, fun q h1 h2 => (hkeep q (Nat.lt_of_lt_of_le h1 hS.1)).trans (hS.2.1 q h1 h2)⟩) hS.2.2 hn (by omega)
/-- behind a call that may throw -/
theorem Wx.tafter {y : MI} {k n k' : Nat} {F F' : FT} {G G' : XT} {pc : Nat} {L : List (Nat × AV)} {rest : List AV} {ls : Array Slot} {st0 : List Value} {a : Array Value} {H : Heap} {locs : List Loc} (hC : Cx V own cc nL p (mrmT y k) s m args meth c D ad (wA V ad s.heap.size)) (hex : ∀ x ∈ c.exceptionTable.toList, False) (hS : va_S (wA V ad s.heap.size) s.heap H locs) (hl : lv_has ls nL (L.map fun q => (q.1, cv ad q.2))) (hL : ∀ q ∈ L, okl V q.2) (hv : ∀ v ∈ rest, okv V v) (hn : n + k' ≤ k)
    (hr : vx_Run p l e (mrmT y k) s m args below meth c H locs n (6 * n) k' (6 * k') (F0 m pc ls st0) (rest.map (cv ad)) (xQ V D ad F' H.size a) (xX V D ad G' H.size) (wA V ad H.size))
    (hG : ∀ E mm' o', G' E mm' o' → G E mm' o')
    (kk : ∀ r mm' o', F' r mm' o' → Wx p l e (mrmT y k) s m args below meth c (n + k') (6 * (n + k')) (TQ below V D ad F G args s k) V D ad (wA V ad s.heap.size) nL (pc + 3) L (r.toList ++ rest) mm' o') : W p l e (mrmT y k) s m args below meth c H locs n (6 * n) (TQ below V D ad F G args s k) (F0 m pc ls st0) := by
  have hA : ∀ q, wA V ad H.size q → wA V ad s.heap.size q := by
    intro q hq
    rcases hq with ⟨k, i, hV, hk0, rfl⟩ | hq
    · exact hC.2.2.2.2.2.2.1 k i hV hk0
    · exact hC.2.2.2.2.2.2.2.1 q (Nat.le_trans hS.1 hq)
  intro T hT X
  rcases hr T hT X with ⟨v, st₀, t, T', L', h0, X', hL', e1, e2, ⟨⟨r, mm', o', hvr, hokr, hF, hW'⟩, hz, hk⟩, stp⟩ | ⟨q, st₀, t, T', L', E, ce, h0, X', hL', e1, e2, ⟨⟨mm', o', hGE, hW'⟩, hz, hk⟩, hce, hcv, hcl, stp⟩
  · cases hvr
    rw [h0] at hz hk
    have hS' : va_S (wA V ad s.heap.size) s.heap T'.heap (locs ++ L') := ⟨Nat.le_trans hS.1 (by rw [e1]; exact hz), fun q h1 h2 => by rw [e1, hk q (Nat.lt_of_lt_of_le h1 hS.1) (fun z => h2 (hA q z))]; exact hS.2.1 q h1 h2, fun q hq => by
        rcases List.mem_append.mp hq with h | h
        · exact hS.2.2 q h
        · exact hA _ (hL' q h)⟩
    rw [← Nat.mul_add] at X'
    obtain ⟨t2, a1, b1⟩ := kk r mm' o' hF T'.heap (locs ++ L') ls (by rw [e1]; exact hW') hS' hl hL (fun w hw => by
        rcases List.mem_append.mp hw with h | h
        · cases r with
          | none => cases h
          | some x => rw [List.mem_singleton.mp h]; exact hokr x rfl
        · exact hv w h) T' rfl X'
    refine ⟨t2, stp t2 ?_, b1⟩
    cases r with
    | none => exact a1
    | some x => exact a1
  · rw [h0] at hz hk
    have hS' : va_S (wA V ad s.heap.size) s.heap T'.heap (locs ++ L') := ⟨Nat.le_trans hS.1 (by rw [e1]; exact hz), fun q h1 h2 => by rw [e1, hk q (Nat.lt_of_lt_of_le h1 hS.1) (fun z => h2 (hA q z))]; exact hS.2.1 q h1 h2, fun q hq => by
        rcases List.mem_append.mp hq with h | h
        · exact hS.2.2 q h
        · exact hA _ (hL' q h)⟩
    rw [← Nat.mul_add] at X'
    have hlk := hC.2.2.2.2.2.2.2.2.2.2.1
    obtain ⟨t2, a1, b1⟩ := vx_out (Qc := xQ V D ad F s.heap.size) (XC := xX V D ad G s.heap.size) (free := wA V ad s.heap.size) (pc := pc) (ls := ls) (rest := rest.map (cv ad)) (mc := k) (ms := 6 * k) (fun x hx => (hex x hx).elim) hlk (by rw [e1]; exact hce) hcv hcl (fun t9 ht9 _ => ⟨⟨mm', o', hG _ _ _ hGE, by rw [ht9, e1]; exact hW'⟩, hS'.F ht9⟩) hS'.2.2 hn (Nat.mul_le_mul_left 6 hn) T' rfl X'
    exact ⟨t2, stp.trans a1, b1⟩
def rmT (x y : MI) : Bool := Nat.ble (y.2.2.2.2.2.1 + 1) x.2.2.2.2.2.1 && Nat.ble (8 + (y.2.2.1 + 11) + y.2.2.2.2.2.2) x.2.2.2.2.2.2
theorem Wx.tcallS {x y : MI} {n j k k' : Nat} {avs rest : List AV} {mm : Mm} {o : Int64} {F F' : FT} {G G' : XT} {pc : Nat} {L : List (Nat × AV)} (hC : Cx V own cc nL p (mrmT x k) s m args meth c D ad (wA V ad s.heap.size)) (hN : wNest s) (hT : wThr (wA V ad s.heap.size) s) (hst : l.stackTraces = false) (hex : ∀ x ∈ c.exceptionTable.toList, False) {C : CT} (hcode : C.all (cOK own cc) = true) {idx nx sl ty rc p1 p2 : Nat} {sj : Int} (hg : cget C pc = some (.invokestatic idx, nx, sl, sj, 0, ty, rc, p1, p2)) (hrc0 : Nat.beq rc 0 = false) (hrc : mNm.getD rc mNm0 = y.1) (hy : mOKs y n) (hrm : rmT x y = true)
    (hM : MetT y k' avs mm o F' G') (hn : avs.length = n) (hrest : rest.length ≤ 4) (hav : ∀ v ∈ avs, okv V v → okl V v) (hj : j + k' ≤ k) (hG : ∀ E mm' o', G' E mm' o' → G E mm' o')
    (kk : ∀ r mm' o', F' r mm' o' → Wx p l e (mrmT x k) s m args below meth c (j + k') (6 * (j + k')) (TQ below V D ad F G args s k) V D ad (wA V ad s.heap.size) nL (pc + 3) L (r.toList ++ rest) mm' o') : Wx p l e (mrmT x k) s m args below meth c j (6 * j) (TQ below V D ad F G args s k) V D ad (wA V ad s.heap.size) nL pc L (avs.reverse ++ rest) mm o := by
  intro H locs ls hW hS hl hL hv
  have he := List.all_eq_true.mp hcode _ (cget_mem hg)
  obtain ⟨hd, hnx⟩ := cOK_spec he 3 rfl (by decide)
  have hw : lw_tbl[p1]? = some (.methodLink own idx (mNm.getD rc mNm0)) ∧ goodWord (.methodLink own idx (mNm.getD rc mNm0)) = true := by
    unfold cOK at he
    simp only [Bool.and_eq_true] at he
    have h1 := he.2
    rw [show Nat.beq 0 0 = true from rfl] at h1
    simp only [cond_true, hrc0, Bool.false_or, Bool.and_eq_true, decide_eq_true_eq] at h1
    exact h1
  rw [hrc] at hw
  have hts := hC.2.2.2.2.1
  obtain ⟨⟨hyc, hyi, hyn⟩, hyS⟩ := hy
  obtain ⟨r1, r2⟩ := Bool.and_eq_true _ _ ▸ hrm
  have cw : CallB (mrmT x k) s args own idx y.1 y.2.1 y.2.2.1 y.2.2.2.1 (mws y) (mrmT y k') k' (6 * k') n ∧ (Cond.static y.1).before args s = true :=
    ⟨callB_of n hts (mws_good y hyc) rfl rfl rfl (hts _ hyi) (hts _ (uw p1 hw.1 hw.2)) hyn ⟨Nat.le_of_ble_eq_true r1, Nat.le_of_ble_eq_true r2⟩, hts _ hyS⟩
  have hWF : WF V ad := ⟨hC.2.2.2.2.2.2.2.2.1, hC.2.2.2.2.2.2.2.2.2.1⟩
  have hok : ∀ v ∈ avs, okl V v := fun v h => hav v h (hv v (List.mem_append_left _ (List.mem_reverse.mpr h)))
  have hK := hC.2.2.2.2.2.1
  have hA : ∀ q, wA V ad H.size q → wA V ad s.heap.size q := by
    intro q hq
    rcases hq with ⟨k, i, hV, hk0, rfl⟩ | hq
    · exact hC.2.2.2.2.2.2.1 k i hV hk0
    · exact hC.2.2.2.2.2.2.2.1 q (Nat.le_trans hS.1 hq)
  rw [show (avs.reverse ++ rest).map (cv ad) = (avs.map (cv ad)).reverse ++ rest.map (cv ad) by rw [List.map_append, List.map_reverse]]
  refine Wx.tafter hC hex hS hl hL (fun v hv' => hv v (List.mem_append_right _ hv')) hj (vx_runS (As := avs.map (cv ad)) (rest := rest.map (cv ad)) ⟨hC.1, hC.2.1, hC.2.2.1, hC.2.2.2.1, hts⟩ (hM l V D ad H.size hst hWF hok) cw ⟨xPT_blind, fun U hU hWm => ⟨rfl, ⟨by rw [hU], by rw [hU]; exact hW, va_K.moved hWm.alike hK, wNest_warm hWm hN⟩, hT.call hS hWm hU hA⟩⟩ rfl (by rw [List.length_map]; exact hn) hl.1 rfl (lv_room (cat_le hrest)) hd ⟨by show j + k' ≤ k; exact hj, by show 6 * j + 6 * k' ≤ 6 * k; omega⟩) hG kk
/-- calls of methods that don't throw, in any room -/
theorem Wx.gcallV {y : MI} {n : Nat} {k : Nat} {i : Int} {avs rest : List AV} {mm : Mm} {o : Int64} {F : FT} {pc : Nat} {L : List (Nat × AV)} (hC : Cx V own cc nL p R s m args meth c D ad A) (hN : wNest s) (hcs : cells ≤ R.cells ∧ slots ≤ R.slots) {C : CT} (hcode : C.all (cOK own cc) = true) {idx nx sl dc ty rc p1 p2 : Nat} {sj : Int} (hg : cget C pc = some (.invokevirtual idx, nx, sl, sj, dc, ty, rc, p1, p2)) (hrc : mNm.getD rc mNm0 = y.1) (hy : mOKv y n) (hrm : y.2.2.2.2.2.1 + 1 ≤ R.frames ∧ 8 + (y.2.2.1 + 11) + y.2.2.2.2.2.2 ≤ R.locals)
    (hM : MetX y (xr k i :: avs) mm o F) (hk : kt k = 1 ∧ cNm.getD (kc k) "" = y.1.cls) (hn : avs.length = n) (hrest : rest.length ≤ 4) (hav : ∀ v ∈ avs, okv V v → okl V v)
    (kk : ∀ r mm' o', F r mm' o' → Wx p l e R s m args below meth c cells slots Q V D ad A nL (pc + 3) L (r.toList ++ rest) mm' o') : Wx p l e R s m args below meth c cells slots Q V D ad A nL pc L (avs.reverse ++ xr k i :: rest) mm o := by
  intro H locs ls hW hS hl hL hv
  have he := List.all_eq_true.mp hcode _ (cget_mem hg)
  obtain ⟨hd, hnx⟩ := cOK_spec he 3 rfl (by decide)
  have hw : lw_tbl[p1]? = some (.methodLink own idx (mNm.getD rc mNm0)) ∧ goodWord (.methodLink own idx (mNm.getD rc mNm0)) = true := by
    unfold cOK at he
    simp only [Bool.and_eq_true, decide_eq_true_eq] at he
    exact he.2
  rw [hrc] at hw
  have hts := hC.2.2.2.2.1
  obtain ⟨⟨hyc, hyi, hyn⟩, hyI, hyS⟩ := hy
  have hVki : V k i := hv (xr k i) (List.mem_append_right _ List.mem_cons_self)
  have cw : CallW R s args own y.1.cls idx y.1 y.2.1 y.2.2.1 y.2.2.2.1 (mws y) (mrm y) 0 0 n :=
    ⟨callB_of n hts (mws_good y hyc) rfl rfl rfl (hts _ hyi) (hts _ (uw p1 hw.1 hw.2)) hyn hrm, hts _ hyI, hts _ hyS⟩
  have hWF : WF V ad := ⟨hC.2.2.2.2.2.2.2.2.1, hC.2.2.2.2.2.2.2.2.2.1⟩
  have hokA : ∀ v ∈ avs, okv V v := fun v hv' => hv v (List.mem_append_left _ (List.mem_reverse.mpr hv'))
  have hok : ∀ v ∈ xr k i :: avs, okl V v := fun v hv' => by
    rcases List.mem_cons.mp hv' with rfl | h
    · exact hVki
    · exact hav v h (hokA v h)
  have hK := hC.2.2.2.2.2.1
  have hrec : ∃ cellB : Cell, H[ad k i]? = some cellB ∧ cellB.vm.isStatics = false ∧ s.vm.findClass y.1.cls = some cellB.cls := by
    obtain ⟨C1, T1, hc1, -, hKn⟩ := cx_xc hC hk.1
    obtain ⟨cell, q1, q2, q3, -⟩ := cell1 (hW k i hVki) hk.1
    refine ⟨cell, q1, by rw [q3]; rfl, ?_⟩
    rw [q2, ← hk.2]
    have : cNm.getD (kc k) "" = C1 := by
      have h11 := kc_tab k (kt_lt hk.1 (by decide)) hk.1
      have hh : ∀ j, j < 11 → (xCl[j]?.map fun q => q.1) = some (cNm.getD j "") := by decide +kernel
      have h12 := hh _ h11
      rw [hc1] at h12
      exact (Option.some.inj h12).symm
    rw [this]
    exact hKn.2.1
  rw [show (avs.reverse ++ xr k i :: rest).map (cv ad) = (avs.map (cv ad)).reverse ++ .ref (ad k i) :: rest.map (cv ad) by rw [List.map_append, List.map_reverse]; rfl]
  refine Wx.after hC hS hl hL (fun v hv' => hv v (List.mem_append_right _ (List.mem_cons_of_mem _ hv'))) (va_runV (As := avs.map (cv ad)) (rest := rest.map (cv ad)) ⟨hC.1, hC.2.1, hC.2.2.1, hC.2.2.2.1, hts⟩ (hM l V D ad H.size hWF hok) cw ⟨xB_blind, hrec, fun U hU hWm => ⟨rfl, by rw [hU], by rw [hU]; exact hW, va_K.moved hWm.alike hK, wNest_warm hWm hN⟩⟩ rfl (by rw [List.length_map]; exact hn) hl.1 rfl (lv_room (cat_le hrest)) hd hcs) kk
theorem wpt {pc k n : Nat} {y : MI} {L : List (Nat × AV)} {S : List AV} {mm : Mm} {o : Int64} (hC : Cx V own cc nL p (mrmT y k) s m args meth c D ad A) {C : CT} (hcode : C.all (cOK own cc) = true) {rt : Nat} {F : FT}
    (hF : ∀ n, n ≤ k → ∀ r mm o, F r mm o → rOK p l e (mrmT y k) s m args below meth c n (6 * n) Q V D ad A cc rt r mm o) (hn : n ≤ k) (stops : List Nat) (fuel : Nat) (h : wp C rt nL stops (Wx p l e (mrmT y k) s m args below meth c n (6 * n) Q V D ad A nL) F fuel pc L S mm o) : Wx p l e (mrmT y k) s m args below meth c n (6 * n) Q V D ad A nL pc L S mm o :=
  wp_ok hC ⟨hn, Nat.mul_le_mul_left 6 hn⟩ hcode (fun _ _ _ _ _ h => h) (hF n hn) fuel pc L S mm o h
theorem wpt0 {pc k : Nat} {y : MI} {L : List (Nat × AV)} {S : List AV} {mm : Mm} {o : Int64} (hC : Cx V own cc nL p (mrmT y k) s m args meth c D ad A) {C : CT} (hcode : C.all (cOK own cc) = true) {rt : Nat} {F : FT}
    (hF : ∀ n, n ≤ k → ∀ r mm o, F r mm o → rOK p l e (mrmT y k) s m args below meth c n (6 * n) Q V D ad A cc rt r mm o) (stops : List Nat) (fuel : Nat) (h : wp C rt nL stops (Wx p l e (mrmT y k) s m args below meth c 0 0 Q V D ad A nL) F fuel pc L S mm o) : Wx p l e (mrmT y k) s m args below meth c 0 0 Q V D ad A nL pc L S mm o :=
  wpt (n := 0) hC hcode hF (Nat.zero_le _) stops fuel h
end CTX
theorem kX10_weather : mOKv iX10_weather 5 := ⟨⟨uw4 (List.mem_of_getElem? (i := 106) rfl) rfl, uw1 (List.mem_of_getElem? (i := 1) rfl) rfl, by decide +kernel⟩, uw4 (List.mem_of_getElem? (i := 104) rfl) rfl, uw4 (List.mem_of_getElem? (i := 105) rfl) rfl⟩
theorem kX10_fault : mOKv iX10_fault 4 := ⟨⟨uw4 (List.mem_of_getElem? (i := 110) rfl) rfl, uw1 (List.mem_of_getElem? (i := 1) rfl) rfl, by decide +kernel⟩, uw4 (List.mem_of_getElem? (i := 108) rfl) rfl, uw4 (List.mem_of_getElem? (i := 109) rfl) rfl⟩
theorem kX10_mount : mOKv iX10_mount 3 := ⟨⟨uw3 (List.mem_of_getElem? (i := 235) rfl) rfl, uw1 (List.mem_of_getElem? (i := 1) rfl) rfl, by decide +kernel⟩, uw3 (List.mem_of_getElem? (i := 233) rfl) rfl, uw3 (List.mem_of_getElem? (i := 234) rfl) rfl⟩
theorem kX10_calibrate : mOKv iX10_calibrate 3 := ⟨⟨uw2 (List.mem_of_getElem? (i := 161) rfl) rfl, uw1 (List.mem_of_getElem? (i := 1) rfl) rfl, by decide +kernel⟩, uw2 (List.mem_of_getElem? (i := 159) rfl) rfl, uw2 (List.mem_of_getElem? (i := 160) rfl) rfl⟩
theorem kX10_light : mOKv iX10_light 1 := ⟨⟨uw4 (List.mem_of_getElem? (i := 98) rfl) rfl, uw1 (List.mem_of_getElem? (i := 1) rfl) rfl, by decide +kernel⟩, uw4 (List.mem_of_getElem? (i := 96) rfl) rfl, uw4 (List.mem_of_getElem? (i := 97) rfl) rfl⟩
theorem kX10_seeing : mOKv iX10_seeing 3 := ⟨⟨uw4 (List.mem_of_getElem? (i := 90) rfl) rfl, uw1 (List.mem_of_getElem? (i := 1) rfl) rfl, by decide +kernel⟩, uw4 (List.mem_of_getElem? (i := 88) rfl) rfl, uw4 (List.mem_of_getElem? (i := 89) rfl) rfl⟩
theorem kX10_share : mOKv iX10_share 2 := ⟨⟨uw4 (List.mem_of_getElem? (i := 114) rfl) rfl, uw1 (List.mem_of_getElem? (i := 1) rfl) rfl, by decide +kernel⟩, uw4 (List.mem_of_getElem? (i := 112) rfl) rfl, uw4 (List.mem_of_getElem? (i := 113) rfl) rfl⟩
theorem kX10_proposal : mOKv iX10_proposal 4 := ⟨⟨uw4 (List.mem_of_getElem? (i := 18) rfl) rfl, uw1 (List.mem_of_getElem? (i := 1) rfl) rfl, by decide +kernel⟩, uw4 (List.mem_of_getElem? (i := 16) rfl) rfl, uw4 (List.mem_of_getElem? (i := 17) rfl) rfl⟩
theorem kX10_target : mOKv iX10_target 9 := ⟨⟨uw3 (List.mem_of_getElem? (i := 179) rfl) rfl, uw1 (List.mem_of_getElem? (i := 1) rfl) rfl, by decide +kernel⟩, uw3 (List.mem_of_getElem? (i := 177) rfl) rfl, uw3 (List.mem_of_getElem? (i := 178) rfl) rfl⟩
theorem kX10_series : mOKv iX10_series 4 := ⟨⟨uw3 (List.mem_of_getElem? (i := 214) rfl) rfl, uw1 (List.mem_of_getElem? (i := 1) rfl) rfl, by decide +kernel⟩, uw3 (List.mem_of_getElem? (i := 212) rfl) rfl, uw3 (List.mem_of_getElem? (i := 213) rfl) rfl⟩
theorem kX10_alert : mOKv iX10_alert 9 := ⟨⟨uw3 (List.mem_of_getElem? (i := 221) rfl) rfl, uw1 (List.mem_of_getElem? (i := 1) rfl) rfl, by decide +kernel⟩, uw3 (List.mem_of_getElem? (i := 219) rfl) rfl, uw3 (List.mem_of_getElem? (i := 220) rfl) rfl⟩
theorem kX10_wants : mOKv iX10_wants 2 := ⟨⟨uw4 (List.mem_of_getElem? (i := 29) rfl) rfl, uw1 (List.mem_of_getElem? (i := 1) rfl) rfl, by decide +kernel⟩, uw4 (List.mem_of_getElem? (i := 27) rfl) rfl, uw4 (List.mem_of_getElem? (i := 28) rfl) rfl⟩
theorem kX10_chances : mOKv iX10_chances 3 := ⟨⟨uw4 (List.mem_of_getElem? (i := 68) rfl) rfl, uw1 (List.mem_of_getElem? (i := 1) rfl) rfl, by decide +kernel⟩, uw4 (List.mem_of_getElem? (i := 66) rfl) rfl, uw4 (List.mem_of_getElem? (i := 67) rfl) rfl⟩
theorem kX10_run : mOKv iX10_run 1 := ⟨⟨uw2 (List.mem_of_getElem? (i := 236) rfl) rfl, uw1 (List.mem_of_getElem? (i := 1) rfl) rfl, by decide +kernel⟩, uw2 (List.mem_of_getElem? (i := 234) rfl) rfl, uw2 (List.mem_of_getElem? (i := 235) rfl) rfl⟩
theorem kX10_goingOn : mOKv iX10_goingOn 2 := ⟨⟨uw4 (List.mem_of_getElem? (i := 38) rfl) rfl, uw1 (List.mem_of_getElem? (i := 1) rfl) rfl, by decide +kernel⟩, uw4 (List.mem_of_getElem? (i := 36) rfl) rfl, uw4 (List.mem_of_getElem? (i := 37) rfl) rfl⟩
theorem kX10_visits : mOKv iX10_visits 1 := ⟨⟨uw4 (List.mem_of_getElem? (i := 25) rfl) rfl, uw1 (List.mem_of_getElem? (i := 1) rfl) rfl, by decide +kernel⟩, uw4 (List.mem_of_getElem? (i := 23) rfl) rfl, uw4 (List.mem_of_getElem? (i := 24) rfl) rfl⟩
theorem kX10_slots : mOKv iX10_slots 2 := ⟨⟨uw4 (List.mem_of_getElem? (i := 34) rfl) rfl, uw1 (List.mem_of_getElem? (i := 1) rfl) rfl, by decide +kernel⟩, uw4 (List.mem_of_getElem? (i := 32) rfl) rfl, uw4 (List.mem_of_getElem? (i := 33) rfl) rfl⟩
theorem kX10_lost : mOKv iX10_lost 2 := ⟨⟨uw4 (List.mem_of_getElem? (i := 42) rfl) rfl, uw1 (List.mem_of_getElem? (i := 1) rfl) rfl, by decide +kernel⟩, uw4 (List.mem_of_getElem? (i := 40) rfl) rfl, uw4 (List.mem_of_getElem? (i := 41) rfl) rfl⟩
theorem kX10_datum : mOKv iX10_datum 2 := ⟨⟨uw4 (List.mem_of_getElem? (i := 64) rfl) rfl, uw1 (List.mem_of_getElem? (i := 1) rfl) rfl, by decide +kernel⟩, uw4 (List.mem_of_getElem? (i := 62) rfl) rfl, uw4 (List.mem_of_getElem? (i := 63) rfl) rfl⟩
theorem kX10_reads : mOKv iX10_reads 3 := ⟨⟨uw4 (List.mem_of_getElem? (i := 73) rfl) rfl, uw1 (List.mem_of_getElem? (i := 1) rfl) rfl, by decide +kernel⟩, uw4 (List.mem_of_getElem? (i := 71) rfl) rfl, uw4 (List.mem_of_getElem? (i := 72) rfl) rfl⟩
theorem kX10_replay : mOKv iX10_replay 1 := ⟨⟨uw4 (List.mem_of_getElem? (i := 6) rfl) rfl, uw1 (List.mem_of_getElem? (i := 1) rfl) rfl, by decide +kernel⟩, uw4 (List.mem_of_getElem? (i := 4) rfl) rfl, uw4 (List.mem_of_getElem? (i := 5) rfl) rfl⟩
theorem kX10_bestOrder : mOKv iX10_bestOrder 2 := ⟨⟨uw4 (List.mem_of_getElem? (i := 77) rfl) rfl, uw1 (List.mem_of_getElem? (i := 1) rfl) rfl, by decide +kernel⟩, uw4 (List.mem_of_getElem? (i := 75) rfl) rfl, uw4 (List.mem_of_getElem? (i := 76) rfl) rfl⟩
theorem kX10_needIndex : mOKs iX10_needIndex 2 := ⟨⟨uw2 (List.mem_of_getElem? (i := 164) rfl) rfl, uw1 (List.mem_of_getElem? (i := 1) rfl) rfl, by decide +kernel⟩, uw2 (List.mem_of_getElem? (i := 163) rfl) rfl⟩
theorem kX10_needSlots : mOKs iX10_needSlots 4 := ⟨⟨uw4 (List.mem_of_getElem? (i := 93) rfl) rfl, uw1 (List.mem_of_getElem? (i := 1) rfl) rfl, by decide +kernel⟩, uw4 (List.mem_of_getElem? (i := 92) rfl) rfl⟩
theorem kX10_needRange : mOKs iX10_needRange 3 := ⟨⟨uw2 (List.mem_of_getElem? (i := 239) rfl) rfl, uw1 (List.mem_of_getElem? (i := 1) rfl) rfl, by decide +kernel⟩, uw2 (List.mem_of_getElem? (i := 238) rfl) rfl⟩
theorem kX10_needOrder : mOKs iX10_needOrder 2 := ⟨⟨uw3 (List.mem_of_getElem? (i := 224) rfl) rfl, uw1 (List.mem_of_getElem? (i := 1) rfl) rfl, by decide +kernel⟩, uw3 (List.mem_of_getElem? (i := 223) rfl) rfl⟩
theorem kX10_needSky : mOKs iX10_needSky 2 := ⟨⟨uw3 (List.mem_of_getElem? (i := 182) rfl) rfl, uw1 (List.mem_of_getElem? (i := 1) rfl) rfl, by decide +kernel⟩, uw3 (List.mem_of_getElem? (i := 181) rfl) rfl⟩
theorem kX10_needState : mOKs iX10_needState 1 := ⟨⟨uw3 (List.mem_of_getElem? (i := 185) rfl) rfl, uw1 (List.mem_of_getElem? (i := 1) rfl) rfl, by decide +kernel⟩, uw3 (List.mem_of_getElem? (i := 184) rfl) rfl⟩
