/-! ===== two memories in one heap: sorts below 40 and from 40 on; frames of the law ===== -/
def mix (a m : Mm) : Mm := fun k i z => bif Nat.blt k 40 then a k i z else m k i z
def rfOK (k : Nat) (q : Option (Nat × Int)) : Bool := match q with
  | some q => decide (0 ≤ q.2 ∧ q.2 < km q.1) && (Nat.blt q.1 40 == Nat.blt k 40)
  | none => true
theorem rf_o : ((List.range 102).all fun k => !Nat.beq (kt k) 1 || ((List.range (km k)).all fun i => (List.range (kn k)).all fun sl => rfOK k (rfo k (i : Int) sl))) = true := by decide +kernel
theorem rf_a : ((List.range 102).all fun k => !Nat.beq (kt k) 4 || ((List.range (km k)).all fun i => (List.range (kn k)).all fun sl => rfOK k (rfa k (i : Int) (sl : Int)))) = true := by decide +kernel
theorem rfOK_of {k : Nat} {q : Nat × Int} (h : rfOK k (some q) = true) : (0 ≤ q.2 ∧ q.2 < km q.1) ∧ (q.1 < 40 ↔ k < 40) := by
  unfold rfOK at h
  simp only [Bool.and_eq_true, decide_eq_true_eq, beq_iff_eq] at h
  refine ⟨h.1, ?_⟩
  rw [← Nat.blt_eq, ← Nat.blt_eq, h.2]
theorem rfo_of {k : Nat} {i : Int} {sl : Nat} {q : Nat × Int} (hk : kt k = 1) (h0 : 0 ≤ i) (h1 : i < km k) (hs : sl < kn k) (h : rfo k i sl = some q) : (0 ≤ q.2 ∧ q.2 < km q.1) ∧ (q.1 < 40 ↔ k < 40) := by
  have g1 := List.all_eq_true.mp rf_o k (List.mem_range.mpr (kt_lt hk (by decide)))
  rw [hk] at g1
  have g2 := List.all_eq_true.mp (show ((List.range (km k)).all fun i => (List.range (kn k)).all fun sl => rfOK k (rfo k (i : Int) sl)) = true from g1) i.toNat (List.mem_range.mpr (by omega))
  have g3 := List.all_eq_true.mp g2 sl (List.mem_range.mpr hs)
  rw [Int.toNat_of_nonneg h0, h] at g3
  exact rfOK_of g3
theorem rfa_of {k : Nat} {i z : Int} {q : Nat × Int} (hk : kt k = 4) (h0 : 0 ≤ i) (h1 : i < km k) (z0 : 0 ≤ z) (z1 : z < kn k) (h : rfa k i z = some q) : (0 ≤ q.2 ∧ q.2 < km q.1) ∧ (q.1 < 40 ↔ k < 40) := by
  have g1 := List.all_eq_true.mp rf_a k (List.mem_range.mpr (kt_lt hk (by decide)))
  rw [hk] at g1
  have g2 := List.all_eq_true.mp (show ((List.range (km k)).all fun i => (List.range (kn k)).all fun sl => rfOK k (rfa k (i : Int) (sl : Int))) = true from g1) i.toNat (List.mem_range.mpr (by omega))
  have g3 := List.all_eq_true.mp g2 z.toNat (List.mem_range.mpr (by omega))
  rw [Int.toNat_of_nonneg h0, Int.toNat_of_nonneg z0, h] at g3
  exact rfOK_of g3
theorem mixL (a w : Mm) {k : Nat} (h : k < 40) (i j : Int) : mix a w k i j = a k i j := by
  show (bif Nat.blt k 40 then _ else _) = _
  rw [Nat.blt_eq.mpr h]; rfl
theorem mixR (a w : Mm) {k : Nat} (h : ¬ k < 40) (i j : Int) : mix a w k i j = w k i j := by
  have e : Nat.blt k 40 = false := by rw [← Bool.not_eq_true, Nat.blt_eq]; exact h
  show (bif Nat.blt k 40 then _ else _) = _
  rw [e]; rfl
theorem st_mix (a w : Mm) {k : Nat} (h : ¬ k < 40) (i j v : Int) : st (mix a w) k i j v = mix a (st w k i j v) := by
  funext k' i' j'
  by_cases q : k' < 40
  · rw [mixL _ _ q]
    unfold st
    rw [if_neg (fun z => h (by rw [← z.1]; exact q)), mixL _ _ q]
  · rw [mixR _ _ q]
    unfold st
    rw [mixR _ _ q]
def cV (V : Nat → Int → Prop) : Nat → Int → Prop := fun k i => V k i ∧ k < 40
theorem wf_cV {V : Nat → Int → Prop} {ad : Nat → Int → Nat} (h : WF V ad) : WF (cV V) ad :=
  ⟨fun k i k' i' a b => h.1 k i k' i' a.1 b.1, fun k i sl q hV hk hs hq => by
    have hr := h.2.2.2 k i hV.1 (by rw [hk]; decide)
    exact ⟨h.2.1 k i sl q hV.1 hk hs hq, (rfo_of hk hr.1 hr.2 hs hq).2.mpr hV.2⟩, fun k i z q hV hk z0 z1 hq => by
    have hr := h.2.2.2 k i hV.1 (by rw [hk]; decide)
    exact ⟨h.2.2.1 k i z q hV.1 hk z0 z1 hq, (rfa_of hk hr.1 hr.2 z0 z1 hq).2.mpr hV.2⟩, fun k i hV hk => h.2.2.2 k i hV.1 hk⟩
def allI : List AV → Bool
  | [] => true
  | .inl _ :: t => allI t
  | _ => false
theorem allI_okl {V : Nat → Int → Prop} : ∀ {L : List AV}, allI L = true → ∀ v ∈ L, okl V v
  | [], _, v, h => by cases h
  | .inl z :: t, h, v, hv => by
    rcases List.mem_cons.mp hv with rfl | hv
    · trivial
    · exact allI_okl (L := t) h v hv
  | .inr q :: t, h, v, hv => by cases h
section CTX
variable {p : Program} {l : Launch} {e : Env} {R : Room} {s : State} {m : MethodId} {args : Array Value} {below : List Frame} {meth : Method} {c : Code} {cells slots : Nat} {Q : State → Prop} {V : Nat → Int → Prop} {D : DD} {ad : Nat → Int → Nat} {A : Nat → Prop} {nL : Nat} {own : String} {cc : ByteArray}
theorem Wx.widen {pc : Nat} {L : List (Nat × AV)} {S : List AV} {mm : Mm} {o : Int64} {k n : Nat} (h1 : cells ≤ k) (h2 : slots ≤ n) (h : Wx p l e R s m args below meth c k n Q V D ad A nL pc L S mm o) : Wx p l e R s m args below meth c cells slots Q V D ad A nL pc L S mm o :=
  fun H locs ls hW hS hl hL hv => w_widen h1 h2 (h H locs ls hW hS hl hL hv)
theorem wOK_cV {a w : Mm} {o : Int64} {H : Heap} (hW : wOK V D ad (mix a w) o H) : wOK (cV V) D ad a o H := fun k i hV => cell_keep (hW k i hV.1) rfl (fun j => by rw [mixL a w hV.2]) (fun _ => rfl)
theorem run_of {k ks sz : Nat} {G' : XT} {V' : Nat → Int → Prop} {H : Heap} {locs : List Loc} {g : JFrame} {rst : List Value} {Qa : State → Outcome → State → Prop} {fr : Nat → Prop} (hr : vx_Run p l e R s m args below meth c H locs cells slots k ks g rst Qa (xX V' D ad G' sz) fr) (hG : ∀ E m' o', ¬ G' E m' o') : va_Run p l e R s m args below meth c H locs cells slots k ks g rst Qa fr := by
  intro T hT X
  rcases hr T hT X with h | ⟨q, st₀, t, T', L', E, ce, h0, X', hL', e1, e2, ⟨⟨mm', o', hGE, hW'⟩, hz, hk⟩, _⟩
  · exact h
  · exact (hG _ _ _ hGE).elim
/-- behind a call, any cells made -/
theorem Wx.afterG {F : FT} {k ks : Nat} {pc : Nat} {L : List (Nat × AV)} {rest : List AV} {ls : Array Slot} {st0 : List Value} {ar : Array Value} {H : Heap} {locs : List Loc} (hC : Cx V own cc nL p R s m args meth c D ad A) (hS : va_S A s.heap H locs) (hl : lv_has ls nL (L.map fun q => (q.1, cv ad q.2))) (hL : ∀ q ∈ L, okl V q.2) (hv : ∀ v ∈ rest, okv V v)
    (hr : va_Run p l e R s m args below meth c H locs cells slots k ks (F0 m pc ls st0) (rest.map (cv ad)) (xQ V D ad F H.size ar) (wA V ad H.size))
    (kk : ∀ r mm' o', F r mm' o' → Wx p l e R s m args below meth c (cells + k) (slots + ks) Q V D ad A nL (pc + 3) L (r.toList ++ rest) mm' o') : W p l e R s m args below meth c H locs cells slots Q (F0 m pc ls st0) := by
  intro T hT X
  obtain ⟨v, st₀, t, T', L', h0, X', hL', e1, e2, ⟨⟨r, mm', o', hvr, hokr, hF, hW'⟩, hz, hk⟩, stp⟩ := hr T hT X
  cases hvr
  rw [h0] at hz hk
  have hA : ∀ q, wA V ad H.size q → A q := by
    intro q hq
    rcases hq with ⟨k, i, hV, hk0, rfl⟩ | hq
    · exact hC.2.2.2.2.2.2.1 k i hV hk0
    · exact hC.2.2.2.2.2.2.2.1 q (Nat.le_trans hS.1 hq)
  have hS' : va_S A s.heap T'.heap (locs ++ L') := ⟨Nat.le_trans hS.1 (by rw [e1]; exact hz), fun q h1 h2 => by rw [e1, hk q (Nat.lt_of_lt_of_le h1 hS.1) (fun z => h2 (hA q z))]; exact hS.2.1 q h1 h2, fun q hq => by
      rcases List.mem_append.mp hq with h | h
      · exact hS.2.2 q h
      · exact hA _ (hL' q h)⟩
  obtain ⟨t2, a1, b1⟩ := kk r mm' o' hF T'.heap (locs ++ L') ls (by rw [e1]; exact hW') hS' hl hL (fun w hw => by
      rcases List.mem_append.mp hw with h | h
      · cases r with
        | none => cases h
        | some x => rw [List.mem_singleton.mp h]; exact hokr x rfl
      · exact hv w h) T' rfl X'
  refine ⟨t2, stp t2 ?_, b1⟩
  cases r with
  | none => exact a1
  | some x => exact a1
/-- behind a call of the class: the law's own cells stay -/
theorem Wx.afterC {F : FT} {k ks : Nat} {a w : Mm} {o : Int64} {pc : Nat} {L : List (Nat × AV)} {rest : List AV} {ls : Array Slot} {st0 : List Value} {ar : Array Value} {H : Heap} {locs : List Loc} (hC : Cx V own cc nL p R s m args meth c D ad A) (hW : wOK V D ad (mix a w) o H) (hS : va_S A s.heap H locs) (hl : lv_has ls nL (L.map fun q => (q.1, cv ad q.2))) (hL : ∀ q ∈ L, okl V q.2) (hv : ∀ v ∈ rest, okv V v)
    (hr : va_Run p l e R s m args below meth c H locs cells slots k ks (F0 m pc ls st0) (rest.map (cv ad)) (xQ (cV V) D ad F H.size ar) (wA (cV V) ad H.size))
    (kk : ∀ r a' o', F r a' o' → Wx p l e R s m args below meth c (cells + k) (slots + ks) Q V D ad A nL (pc + 3) L (r.toList ++ rest) (mix a' w) o') : W p l e R s m args below meth c H locs cells slots Q (F0 m pc ls st0) := by
  intro T hT X
  obtain ⟨v, st₀, t, T', L', h0, X', hL', e1, e2, ⟨⟨r, a', o', hvr, hokr, hF, hW'⟩, hz, hk⟩, stp⟩ := hr T hT X
  cases hvr
  rw [h0] at hz hk
  have hA : ∀ q, wA (cV V) ad H.size q → A q := by
    intro q hq
    rcases hq with ⟨k, i, hV, hk0, rfl⟩ | hq
    · exact hC.2.2.2.2.2.2.1 k i hV.1 hk0
    · exact hC.2.2.2.2.2.2.2.1 q (Nat.le_trans hS.1 hq)
  have hS' : va_S A s.heap T'.heap (locs ++ L') := ⟨Nat.le_trans hS.1 (by rw [e1]; exact hz), fun q h1 h2 => by rw [e1, hk q (Nat.lt_of_lt_of_le h1 hS.1) (fun z => h2 (hA q z))]; exact hS.2.1 q h1 h2, fun q hq => by
      rcases List.mem_append.mp hq with h | h
      · exact hS.2.2 q h
      · exact hA _ (hL' q h)⟩
  have hW2 : wOK V D ad (mix a' w) o' t.heap := by
    intro k2 i2 hV
    by_cases h' : k2 < 40
    · exact cell_keep (hW' k2 i2 ⟨hV, h'⟩) rfl (fun j => by rw [mixL a' w h']) (fun _ => rfl)
    · by_cases h1 : kt k2 = 0
      · unfold cellOK; rw [h1]; exact trivial
      · refine cell_keep (hW k2 i2 hV) ?_ (fun j => by rw [mixR a' w h', mixR a w h']) (fun q5 => (kt5 q5).elim)
        refine hk _ (lt_of_wOK hW hV h1) (fun hq => ?_)
        rcases hq with ⟨k3, i3, hV3, hk3, e3⟩ | hq
        · obtain ⟨rfl, rfl⟩ := hC.2.2.2.2.2.2.2.2.1 _ _ _ _ hV hV3.1 e3
          exact h' hV3.2
        · exact absurd (lt_of_wOK hW hV h1) (Nat.not_lt.mpr hq)
  obtain ⟨t2, a1, b1⟩ := kk r a' o' hF T'.heap (locs ++ L') ls (by rw [e1]; exact hW2) hS' hl hL (fun w hw => by
      rcases List.mem_append.mp hw with h | h
      · cases r with
        | none => cases h
        | some x =>
          rw [List.mem_singleton.mp h]
          have h9 := hokr x rfl
          rcases x with z | z | q
          · trivial
          · trivial
          · exact h9.1
      · exact hv w h) T' rfl X'
  refine ⟨t2, stp t2 ?_, b1⟩
  cases r with
  | none => exact a1
  | some x => exact a1
theorem cat_le12 {S : List AV} (h : ∀ v ∈ S, okl V v) (hl : S.length ≤ 12) : ((S.map (cv ad)).map fun v => v.category).sum ≤ 12 := by
  have h1 : ∀ S' : List AV, (∀ v ∈ S', okl V v) → ((S'.map (cv ad)).map fun v => v.category).sum = S'.length := by
    intro S'
    induction S' with
    | nil => intro _; rfl
    | cons v t ih =>
      intro h
      simp only [List.map_cons, List.sum_cons, List.length_cons]
      rw [ih (fun w hw => h w (List.mem_cons_of_mem _ hw)), cv_cat (ad := ad) (h v List.mem_cons_self)]
      omega
  rw [h1 S h]; exact hl
end CTX
section Runs12
variable {p : Program} {l : Launch} {e : Env} {R : Room} {s : State} {m : MethodId} {args : Array Value} {below : List Frame} {meth : Method} {c : Code} {H : Heap} {locs : List Loc} {cells slots : Nat} {Ts ws ws' : List Cond} {cc bytes : ByteArray} {nL maxL index n mc ms : Nat} {own C : String} {y : MethodName} {ret : Option FieldType} {rm : Room} {Pc : Array Value → State → Prop} {Qc : Array Value → State → Outcome → State → Prop} {XC : String → State → State → Prop} {free : Addr → Prop} {b : Addr} {As rest : List Value} {g : JFrame}
/-- vx_runS of the starting texts, with a stack of up to 12 below the arguments -/
theorem vx_runS12 (S : CallFix p m c cc nL s args Ts own) (hM : vx_Met l y ws rm Pc Qc XC mc ms free) (cw : CallB R s args own index y bytes maxL ret ws rm mc ms n ∧ (Cond.static y).before args s = true) (hlo : 12 + (maxL + 11) + rm.locals ≤ R.locals) (hp : PreS s H Pc As)
    (hg : g.method = m) (hn : As.length = n) (hsize : g.locals.size = nL) (hstack : g.stack = As.reverse ++ rest) (hW : 2 * g.monitorRoom + (rest.map fun v => v.category).sum ≤ 12) (hdg : decode cc g.pc = .ok (.invokestatic index, 3)) (hf : cells + mc ≤ R.cells ∧ slots + ms ≤ R.slots) :
    vx_Run p l e R s m args below meth c H locs cells slots mc ms g rest (Qc As.toArray) XC free := by
  obtain ⟨⟨hrc, hrs, hfr, -, hws, hcw, hcode, hini, hy, hlen, hl⟩, hstt⟩ := cw
  have hK : vx_Back l R p e below s args y 3 12 (PreOf R mc ms Pc) (PostOf Qc mc ms free) (vx_Post XC mc ms free) := vx_back (bytes := bytes) (maxL := maxL) (ret := ret) hM hp.1 hrc hrs hfr hlo hws hcw (fun a' U hW => word_at hW (Or.inl (by first | rfl | simp [Cond.onTables, Cond.keeps, Cond.steady])) hini)
  obtain ⟨hx, hb, hml, ho, -⟩ := S
  intro T hT X
  rcases vx_callS X hx (bytes := bytes) (maxL := maxL) (ret := ret) ho hl hstt hini hcode hy hK hg (hsize.trans hml.symm) (argsL := As) (rest := rest) (fun sig h => hn.trans (hlen sig h)) hstack hW (by rw [hb]; exact hdg)
    (fun vm₁ hW₁ => ⟨hf.1, hf.2, hp.2 (T.setVm vm₁) hT hW₁⟩) with ⟨v, vm₁, ⟨U', l2, c2, s2⟩, hW₁, X', ⟨g', mk, t, L, e1, e2, hq, h1, hL, h2, h3⟩, st⟩ | ⟨q, vm₁, ⟨U', l2, c2, s2⟩, hW₁, X', ⟨g', mk, t, L, E, ce, e1, e2, hq, hce, hcv, hcl, h1, hL, h2, h3⟩, st⟩
  · dsimp only [Pt.U, Pt.locs, Pt.cells, Pt.slots] at X' e1 e2 h1 h2 h3 st
    subst h1; subst h2; subst h3
    exact Or.inl ⟨v, (T.setVm vm₁).calling g' mk As.toArray, t, U', L, hT, X', hL, e1, e2, hq, st⟩
  · dsimp only [Pt.U, Pt.locs, Pt.cells, Pt.slots] at X' e1 e2 h1 h2 h3 st hcl
    subst h1; subst h2; subst h3
    exact Or.inr ⟨q, (T.setVm vm₁).calling g' mk As.toArray, t, U', L, E, ce, hT, X', hL, e1, e2, hq, hce, hcv, vx_cls hW₁ hcl, st⟩
end Runs12
