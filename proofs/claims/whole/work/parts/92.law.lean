/-! ===== the law: two memories in one heap ===== -/
def mix (a m : Mm) : Mm := fun k i z => bif Nat.blt k 40 then a k i z else m k i z
def lawV (k : Nat) (i : Int) : Prop := (k = 0 ∧ i = 0) ∨ (0 ≤ i ∧ i < km k)
def clV (k : Nat) (i : Int) : Prop := k < 40 ∧ 0 ≤ i ∧ i < km k
def moV (k : Nat) (i : Int) : Prop := 40 ≤ k ∧ 0 ≤ i ∧ i < km k
def rfOK (k : Nat) (q : Option (Nat × Int)) : Bool := match q with
  | some q => decide (0 ≤ q.2 ∧ q.2 < km q.1) && (Nat.blt q.1 40 == Nat.blt k 40)
  | none => true
theorem rf_o : ((List.range 102).all fun k => !Nat.beq (kt k) 1 || ((List.range (km k)).all fun i => (List.range (kn k)).all fun sl => rfOK k (rfo k (i : Int) sl))) = true := by decide +kernel
theorem rf_a : ((List.range 102).all fun k => !Nat.beq (kt k) 4 || ((List.range (km k)).all fun i => (List.range (kn k)).all fun sl => rfOK k (rfa k (i : Int) (sl : Int)))) = true := by decide +kernel
theorem rfOK_of {k : Nat} {q : Nat × Int} (h : rfOK k (some q) = true) : (0 ≤ q.2 ∧ q.2 < km q.1) ∧ (q.1 < 40 ↔ k < 40) := by
  unfold rfOK at h
  simp only [Bool.and_eq_true, decide_eq_true_eq, beq_iff_eq] at h
  refine ⟨h.1, ?_⟩
  rw [← Nat.blt_eq, ← Nat.blt_eq, h.2]
theorem rfo_of {k : Nat} {i : Int} {sl : Nat} {q : Nat × Int} (hk : kt k = 1) (h0 : 0 ≤ i) (h1 : i < km k) (hs : sl < kn k) (h : rfo k i sl = some q) : (0 ≤ q.2 ∧ q.2 < km q.1) ∧ (q.1 < 40 ↔ k < 40) := by
  have g1 := List.all_eq_true.mp rf_o k (List.mem_range.mpr (kt_lt hk (by decide)))
  rw [hk] at g1
  have g2 := List.all_eq_true.mp (show ((List.range (km k)).all fun i => (List.range (kn k)).all fun sl => rfOK k (rfo k (i : Int) sl)) = true from g1) i.toNat (List.mem_range.mpr (by omega))
  have g3 := List.all_eq_true.mp g2 sl (List.mem_range.mpr hs)
  rw [Int.toNat_of_nonneg h0, h] at g3
  exact rfOK_of g3
theorem rfa_of {k : Nat} {i z : Int} {q : Nat × Int} (hk : kt k = 4) (h0 : 0 ≤ i) (h1 : i < km k) (z0 : 0 ≤ z) (z1 : z < kn k) (h : rfa k i z = some q) : (0 ≤ q.2 ∧ q.2 < km q.1) ∧ (q.1 < 40 ↔ k < 40) := by
  have g1 := List.all_eq_true.mp rf_a k (List.mem_range.mpr (kt_lt hk (by decide)))
  rw [hk] at g1
  have g2 := List.all_eq_true.mp (show ((List.range (km k)).all fun i => (List.range (kn k)).all fun sl => rfOK k (rfa k (i : Int) (sl : Int))) = true from g1) i.toNat (List.mem_range.mpr (by omega))
  have g3 := List.all_eq_true.mp g2 z.toNat (List.mem_range.mpr (by omega))
  rw [Int.toNat_of_nonneg h0, Int.toNat_of_nonneg z0, h] at g3
  exact rfOK_of g3
theorem lawV_r {k : Nat} {i : Int} (h : lawV k i) (hk : kt k ≠ 0) : 0 ≤ i ∧ i < km k := by
  rcases h with ⟨rfl, -⟩ | h
  · exact absurd rfl hk
  · exact h
theorem cl_law {k : Nat} {i : Int} (h : clV k i) : lawV k i := Or.inr h.2
theorem mo_law {k : Nat} {i : Int} (h : moV k i) : lawV k i := Or.inr h.2
theorem wf_law {ad : Nat → Int → Nat} (h : ∀ k i k' i', lawV k i → lawV k' i' → ad k i = ad k' i' → k = k' ∧ i = i') : WF lawV ad :=
  ⟨h, fun k i sl q hV hk hs hq => Or.inr (rfo_of hk (lawV_r hV (by rw [hk]; decide)).1 (lawV_r hV (by rw [hk]; decide)).2 hs hq).1, fun k i z q hV hk z0 z1 hq => Or.inr (rfa_of hk (lawV_r hV (by rw [hk]; decide)).1 (lawV_r hV (by rw [hk]; decide)).2 z0 z1 hq).1, fun k i hV hk => lawV_r hV hk⟩
theorem wf_cl {ad : Nat → Int → Nat} (h : ∀ k i k' i', lawV k i → lawV k' i' → ad k i = ad k' i' → k = k' ∧ i = i') : WF clV ad :=
  ⟨fun k i k' i' a b => h k i k' i' (cl_law a) (cl_law b), fun k i sl q hV hk hs hq => by obtain ⟨g1, g2⟩ := rfo_of hk hV.2.1 hV.2.2 hs hq; exact ⟨g2.mpr hV.1, g1⟩, fun k i z q hV hk z0 z1 hq => by obtain ⟨g1, g2⟩ := rfa_of hk hV.2.1 hV.2.2 z0 z1 hq; exact ⟨g2.mpr hV.1, g1⟩, fun k i hV hk => hV.2⟩
theorem wf_mo {ad : Nat → Int → Nat} (h : ∀ k i k' i', lawV k i → lawV k' i' → ad k i = ad k' i' → k = k' ∧ i = i') : WF moV ad :=
  ⟨fun k i k' i' a b => h k i k' i' (mo_law a) (mo_law b), fun k i sl q hV hk hs hq => by obtain ⟨g1, g2⟩ := rfo_of hk hV.2.1 hV.2.2 hs hq; exact ⟨Nat.not_lt.mp fun c => absurd (g2.mp c) (Nat.not_lt.mpr hV.1), g1⟩, fun k i z q hV hk z0 z1 hq => by obtain ⟨g1, g2⟩ := rfa_of hk hV.2.1 hV.2.2 z0 z1 hq; exact ⟨Nat.not_lt.mp fun c => absurd (g2.mp c) (Nat.not_lt.mpr hV.1), g1⟩, fun k i hV hk => hV.2⟩
/-- a part V' of the cells and a memory g mm1 that is mm1 there and the same elsewhere -/
def locOK (V' : Nat → Int → Prop) (g : Mm → Mm) : Prop := (∀ k i, V' k i → lawV k i) ∧ (∀ mm k i, V' k i → ∀ j, g mm k i j = mm k i j) ∧ (∀ mm mm' k i, lawV k i → kt k ≠ 0 → ¬ V' k i → ∀ j, g mm' k i j = g mm k i j)
theorem loc_cl (mo : Mm) : locOK clV (fun a => mix a mo) := ⟨fun k i h => cl_law h, fun mm k i h j => by show (bif Nat.blt k 40 then _ else _) = _; rw [Nat.blt_eq.mpr h.1]; rfl, fun mm mm' k i h h0 hn j => by
  have : ¬ k < 40 := fun c => hn ⟨c, lawV_r h h0⟩
  have e : Nat.blt k 40 = false := by rw [← Bool.not_eq_true, Nat.blt_eq]; exact this
  show (bif Nat.blt k 40 then _ else _) = (bif Nat.blt k 40 then _ else _)
  rw [e]; rfl⟩
theorem loc_mo (a : Mm) : locOK moV (fun m => mix a m) := ⟨fun k i h => mo_law h, fun mm k i h j => by
  have e : Nat.blt k 40 = false := by rw [← Bool.not_eq_true, Nat.blt_eq]; exact Nat.not_lt.mpr h.1
  show (bif Nat.blt k 40 then _ else _) = _
  rw [e]; rfl, fun mm mm' k i h h0 hn j => by
  have : k < 40 := Nat.not_le.mp fun c => hn ⟨c, lawV_r h h0⟩
  show (bif Nat.blt k 40 then _ else _) = (bif Nat.blt k 40 then _ else _)
  rw [Nat.blt_eq.mpr this]; rfl⟩
def mOKw (y : MI) (hh : HT) (n : Nat) : Prop := Cond.codeWith y.1 y.2.1 y.2.2.1 y.2.2.2.1 hh ∈ UW ∧ Cond.initialized y.1.cls ∈ UW ∧ Cond.static y.1 ∈ UW ∧ (y.1.cls ≠ "java/lang/invoke/MethodHandle" ∧ y.1.cls ≠ "java/lang/invoke/VarHandle" ∧ (parseMethodDescriptor y.1.desc).map (fun d => d.parameters.length) = some n)
def rmR (R : Room) (y : MI) : Bool := Nat.ble (y.2.2.2.2.2.1 + 1) R.frames && Nat.ble (8 + (y.2.2.1 + 11) + y.2.2.2.2.2.2) R.locals
/-- the numbers that a case reads from the script -/
def rdW (n : Nat) : Nat := bif Nat.ble n 5 then 1 else 2
def rdOK (cc : ByteArray) : Nat → List Nat → Bool
  | _, [] => true
  | pc, n :: t => decide (decode cc pc = .ok (.aload_n 0, 1)) && decide (decode cc (pc + 1) = .ok (.iload 4, 2)) && (bif Nat.ble n 5 then decide (decode cc (pc + 3) = .ok (.iconst n, 1)) else (decide (decode cc (pc + 3) = .ok (.bipush n, 2)) && Nat.ble n 127)) && decide (decode cc (pc + 3 + rdW n) = .ok (.iadd, 1)) && decide (decode cc (pc + 3 + rdW n + 1) = .ok (.iaload, 1)) && rdOK cc (pc + 3 + rdW n + 1 + 1) t
def rdTo : Nat → List Nat → Nat
  | pc, [] => pc
  | pc, n :: t => rdTo (pc + 3 + rdW n + 1 + 1) t
def rdS (X : Int → Int) (z : Int) : List Nat → List AV → List AV
  | [], S => S
  | n :: t, S => rdS X z t (xi (X (z + (n : Int))) :: S)
def scr (xs : Nat → Int32) (j : Int) : Int := (xs j.toNat).toInt
theorem wr_scr (xs : Nat → Int32) (j : Int) : wr (scr xs j) = scr xs j := wr_toInt _
section CTX
variable {p : Program} {l : Launch} {e : Env} {R : Room} {s : State} {m : MethodId} {args : Array Value} {below : List Frame} {meth : Method} {c : Code} {cells slots : Nat} {Q : State → Prop} {D : DD} {ad : Nat → Int → Nat} {A : Nat → Prop} {nL : Nat} {own : String} {cc : ByteArray}
theorem Wx.widen {V : Nat → Int → Prop} {pc : Nat} {L : List (Nat × AV)} {S : List AV} {mm : Mm} {o : Int64} {k n : Nat} (h1 : cells ≤ k) (h2 : slots ≤ n) (h : Wx p l e R s m args below meth c k n Q V D ad A nL pc L S mm o) : Wx p l e R s m args below meth c cells slots Q V D ad A nL pc L S mm o :=
  fun H locs ls hW hS hl hL hv => w_widen h1 h2 (h H locs ls hW hS hl hL hv)
theorem wpl {V : Nat → Int → Prop} {pc : Nat} {L : List (Nat × AV)} {S : List AV} {mm : Mm} {o : Int64} (hC : Cx V own cc nL p R s m args meth c D ad A) (hRc : cells ≤ R.cells ∧ slots ≤ R.slots) {C : CT} (hcode : C.all (cOK own cc) = true) (stops : List Nat) (n : Nat) (h : wp C 1 nL stops (Wx p l e R s m args below meth c cells slots Q V D ad A nL) (fun _ _ _ => False) n pc L S mm o) : Wx p l e R s m args below meth c cells slots Q V D ad A nL pc L S mm o :=
  wp_ok hC hRc hcode (fun _ _ _ _ _ h => h) (fun _ _ _ h => h.elim) n pc L S mm o h
theorem cell_5 {k : Nat} (h : kt k = 5) : k = 35 := by
  have q : ∀ k, k < 102 → kt k = 5 → k = 35 := by decide +kernel
  exact q k (kt_lt h (by decide)) h
/-- behind a call that sees a part of the cells -/
theorem Wx.afterL {V' : Nat → Int → Prop} {g : Mm → Mm} {F : FT} {k ks : Nat} {mm1 : Mm} {o : Int64} {pc : Nat} {L : List (Nat × AV)} {rest : List AV} {ls : Array Slot} {st0 : List Value} {ar : Array Value} {H : Heap} {locs : List Loc} (hC : Cx lawV own cc nL p R s m args meth c D ad A) (hg : locOK V' g) (h5 : (∀ i, lawV 35 i → V' 35 i) ∨ ∀ r mm' o', F r mm' o' → o' = o) (hW : wOK lawV D ad (g mm1) o H) (hS : va_S A s.heap H locs) (hl : lv_has ls nL (L.map fun q => (q.1, cv ad q.2))) (hL : ∀ q ∈ L, okl lawV q.2) (hv : ∀ v ∈ rest, okv lawV v)
    (hr : va_Run p l e R s m args below meth c H locs cells slots k ks (F0 m pc ls st0) (rest.map (cv ad)) (xQ V' D ad F H.size ar) (wA V' ad H.size))
    (kk : ∀ r mm' o', F r mm' o' → Wx p l e R s m args below meth c (cells + k) (slots + ks) Q lawV D ad A nL (pc + 3) L (r.toList ++ rest) (g mm') o') : W p l e R s m args below meth c H locs cells slots Q (F0 m pc ls st0) := by
  intro T hT X
  obtain ⟨v, st₀, t, T', L', h0, X', hL', e1, e2, ⟨⟨r, mm', o', hvr, hokr, hF, hW'⟩, hz, hk⟩, stp⟩ := hr T hT X
  cases hvr
  rw [h0] at hz hk
  have hA : ∀ q, wA V' ad H.size q → A q := by
    intro q hq
    rcases hq with ⟨k, i, hV, hk0, rfl⟩ | hq
    · exact hC.2.2.2.2.2.2.1 k i (hg.1 k i hV) hk0
    · exact hC.2.2.2.2.2.2.2.1 q (Nat.le_trans hS.1 hq)
  have hS' : va_S A s.heap T'.heap (locs ++ L') := ⟨Nat.le_trans hS.1 (by rw [e1]; exact hz), fun q h1 h2 => by rw [e1, hk q (Nat.lt_of_lt_of_le h1 hS.1) (fun z => h2 (hA q z))]; exact hS.2.1 q h1 h2, fun q hq => by
      rcases List.mem_append.mp hq with h | h
      · exact hS.2.2 q h
      · exact hA _ (hL' q h)⟩
  have hW2 : wOK lawV D ad (g mm') o' t.heap := by
    intro k2 i2 hV
    by_cases h' : V' k2 i2
    · exact cell_keep (hW' k2 i2 h') rfl (fun j => by rw [hg.2.1 _ _ _ h']) (fun _ => rfl)
    · by_cases h1 : kt k2 = 0
      · unfold cellOK; rw [h1]; exact trivial
      · refine cell_keep (hW k2 i2 hV) ?_ (fun j => by rw [hg.2.2 mm1 mm' _ _ hV h1 h']) (fun q5 => ?_)
        · refine hk _ (lt_of_wOK hW hV h1) (fun hq => ?_)
          rcases hq with ⟨k3, i3, hV3, hk3, e3⟩ | hq
          · obtain ⟨rfl, rfl⟩ := hC.2.2.2.2.2.2.2.2.1 _ _ _ _ hV (hg.1 _ _ hV3) e3
            exact h' hV3
          · exact absurd (lt_of_wOK hW hV h1) (Nat.not_lt.mpr hq)
        · rcases h5 with h5 | h5
          · have := cell_5 q5
            subst this
            exact absurd (h5 _ hV) h'
          · exact h5 _ _ _ hF
  obtain ⟨t2, a1, b1⟩ := kk r mm' o' hF T'.heap (locs ++ L') ls (by rw [e1]; exact hW2) hS' hl hL (fun w hw => by
      rcases List.mem_append.mp hw with h | h
      · cases r with
        | none => cases h
        | some x =>
          rw [List.mem_singleton.mp h]
          have h9 := hokr x rfl
          rcases x with z | z | q
          · trivial
          · trivial
          · exact hg.1 _ _ h9
      · exact hv w h) T' rfl X'
  refine ⟨t2, stp t2 ?_, b1⟩
  cases r with
  | none => exact a1
  | some x => exact a1
/-- the law calls a wrapper -/
theorem Wx.lW {y : MI} {hh : HT} {n k : Nat} {avs rest : List AV} {a mo : Mm} {o : Int64} {F : FT} {pc : Nat} {L : List (Nat × AV)} (hC : Cx lawV own cc nL p R s m args meth c D ad A) (hN : wNest s) (hT : wThr A s) (hR : wNar s) (hst : l.stackTraces = false) {C : CT} (hcode : C.all (cOK own cc) = true) {idx nx sl ty rc p1 p2 : Nat} {sj : Int} (hg : cget C pc = some (.invokestatic idx, nx, sl, sj, 0, ty, rc, p1, p2)) (hrc0 : Nat.beq rc 0 = false) (hrc : mNm.getD rc mNm0 = y.1) (hy : mOKw y hh n) (hrm : rmR R y = true)
    (hM : MetW y hh k avs a o F) (hn : avs.length = n) (hrest : rest.length ≤ 4) (hav : ∀ v ∈ avs, okl clV v) (hf : cells + k ≤ R.cells ∧ slots + 6 * k ≤ R.slots)
    (kk : ∀ r a' o', F r a' o' → Wx p l e R s m args below meth c (cells + k) (slots + 6 * k) Q lawV D ad A nL (pc + 3) L (r.toList ++ rest) (mix a' mo) o') : Wx p l e R s m args below meth c cells slots Q lawV D ad A nL pc L (avs.reverse ++ rest) (mix a mo) o := by
  intro H locs ls hW hS hl hL hv
  have he := List.all_eq_true.mp hcode _ (cget_mem hg)
  obtain ⟨hd, hnx⟩ := cOK_spec he 3 rfl (by decide)
  have hw : lw_tbl[p1]? = some (.methodLink own idx (mNm.getD rc mNm0)) ∧ goodWord (.methodLink own idx (mNm.getD rc mNm0)) = true := by
    unfold cOK at he
    simp only [Bool.and_eq_true] at he
    have h1 := he.2
    rw [show Nat.beq 0 0 = true from rfl] at h1
    simp only [cond_true, hrc0, Bool.false_or, Bool.and_eq_true, decide_eq_true_eq] at h1
    exact h1
  rw [hrc] at hw
  have hts := hC.2.2.2.2.1
  obtain ⟨hyc, hyi, hyS, hyn⟩ := hy
  obtain ⟨r1, r2⟩ := Bool.and_eq_true _ _ ▸ hrm
  have hgood : GoodIn UW (va_wsS own idx y.1 (mwsH y hh)) := uw_good (fun w hw' => by
    unfold va_wsS at hw'
    rcases List.mem_append.mp hw' with h | h
    · simp only [List.mem_cons, List.not_mem_nil, or_false] at h
      rcases h with rfl | rfl | rfl
      · exact uw p1 hw.1 hw.2
      · exact hyS
      · exact hyi
    · rcases List.mem_cons.mp h with rfl | h
      · exact hyc
      · exact h)
  have cw : vx_CSW R s args own idx y.1 y.2.1 y.2.2.1 y.2.2.2.1 hh (mwsH y hh) (mrmT y k) k (6 * k) n :=
    vx_cwSW n hts hgood rfl rfl rfl hyn ⟨Nat.le_of_ble_eq_true r1, Nat.le_of_ble_eq_true r2⟩
  have hWF : WF clV ad := wf_cl hC.2.2.2.2.2.2.2.2.1
  have hK := hC.2.2.2.2.2.1
  have hA : ∀ q, wA clV ad H.size q → A q := by
    intro q hq
    rcases hq with ⟨k, i, hV, hk0, rfl⟩ | hq
    · exact hC.2.2.2.2.2.2.1 k i (cl_law hV) hk0
    · exact hC.2.2.2.2.2.2.2.1 q (Nat.le_trans hS.1 hq)
  have hW1 : wOK clV D ad a o H := fun k i hV => cell_keep (hW k i (cl_law hV)) rfl (fun j => congrArg I ((loc_cl mo).2.1 a k i hV j).symm) (fun _ => rfl)
  rw [show (avs.reverse ++ rest).map (cv ad) = (avs.map (cv ad)).reverse ++ rest.map (cv ad) by rw [List.map_append, List.map_reverse]]
  refine Wx.afterL (g := fun a => mix a mo) hC (loc_cl mo) (Or.inl fun i h => ⟨by decide, lawV_r h (by decide)⟩) hW hS hl hL (fun v hv' => hv v (List.mem_append_right _ hv')) (vx_runSW (As := avs.map (cv ad)) (rest := rest.map (cv ad)) ⟨hC.1, hC.2.1, hC.2.2.1, hC.2.2.2.1, hts⟩ (hM l clV D ad H.size hst hWF hav) cw ⟨xPW_blind, fun U hU hWm => ⟨rfl, ⟨by rw [hU], by rw [hU]; exact hW1, va_K.moved hWm.alike hK, wNest_warm hWm hN⟩, hT.call hS hWm hU hA, wNar_warm hWm hR⟩⟩ rfl (by rw [List.length_map]; exact hn) hl.1 rfl (lv_room (cat_le hrest)) hd hf) kk
/-- the law calls a method of the class or of the model -/
theorem Wx.lV {V' : Nat → Int → Prop} {g : Mm → Mm} {y : MI} {n : Nat} {k : Nat} {i : Int} {avs rest : List AV} {mm1 : Mm} {o : Int64} {F : FT} {pc : Nat} {L : List (Nat × AV)} (hC : Cx lawV own cc nL p R s m args meth c D ad A) (hN : wNest s) (hgl : locOK V' g) (h5 : (∀ i, lawV 35 i → V' 35 i) ∨ ∀ r mm' o', F r mm' o' → o' = o) (hWF : WF V' ad) (hVki : V' k i) {C : CT} (hcode : C.all (cOK own cc) = true) {idx nx sl dc ty rc p1 p2 : Nat} {sj : Int} (hg : cget C pc = some (.invokevirtual idx, nx, sl, sj, dc, ty, rc, p1, p2)) (hrc : mNm.getD rc mNm0 = y.1) (hy : mOKv y n) (hrm : rmR R y = true)
    (hM : MetX y (xr k i :: avs) mm1 o F) (hk : kt k = 1 ∧ cNm.getD (kc k) "" = y.1.cls) (hn : avs.length = n) (hrest : rest.length ≤ 4) (hav : ∀ v ∈ avs, okl V' v) (hf : cells ≤ R.cells ∧ slots ≤ R.slots)
    (kk : ∀ r mm' o', F r mm' o' → Wx p l e R s m args below meth c cells slots Q lawV D ad A nL (pc + 3) L (r.toList ++ rest) (g mm') o') : Wx p l e R s m args below meth c cells slots Q lawV D ad A nL pc L (avs.reverse ++ xr k i :: rest) (g mm1) o := by
  intro H locs ls hW hS hl hL hv
  have he := List.all_eq_true.mp hcode _ (cget_mem hg)
  obtain ⟨hd, hnx⟩ := cOK_spec he 3 rfl (by decide)
  have hw : lw_tbl[p1]? = some (.methodLink own idx (mNm.getD rc mNm0)) ∧ goodWord (.methodLink own idx (mNm.getD rc mNm0)) = true := by
    unfold cOK at he
    simp only [Bool.and_eq_true, decide_eq_true_eq] at he
    exact he.2
  rw [hrc] at hw
  have hts := hC.2.2.2.2.1
  obtain ⟨⟨hyc, hyi, hyn⟩, hyI, hyS⟩ := hy
  obtain ⟨r1, r2⟩ := Bool.and_eq_true _ _ ▸ hrm
  have cw : CallW R s args own y.1.cls idx y.1 y.2.1 y.2.2.1 y.2.2.2.1 (mws y) (mrm y) 0 0 n :=
    ⟨callB_of n hts (mws_good y hyc) rfl rfl rfl (hts _ hyi) (hts _ (uw p1 hw.1 hw.2)) hyn ⟨Nat.le_of_ble_eq_true r1, Nat.le_of_ble_eq_true r2⟩, hts _ hyI, hts _ hyS⟩
  have hok : ∀ v ∈ xr k i :: avs, okl V' v := fun v hv' => by
    rcases List.mem_cons.mp hv' with rfl | h
    · exact hVki
    · exact hav v h
  have hK := hC.2.2.2.2.2.1
  have hrec : ∃ cellB : Cell, H[ad k i]? = some cellB ∧ cellB.vm.isStatics = false ∧ s.vm.findClass y.1.cls = some cellB.cls := by
    obtain ⟨C1, T1, hc1, -, hKn⟩ := cx_xc hC hk.1
    obtain ⟨cell, q1, q2, q3, -⟩ := cell1 (hW k i (hgl.1 k i hVki)) hk.1
    refine ⟨cell, q1, by rw [q3]; rfl, ?_⟩
    rw [q2, ← hk.2]
    have : cNm.getD (kc k) "" = C1 := by
      have h11 := kc_tab k (kt_lt hk.1 (by decide)) hk.1
      have hh : ∀ j, j < 11 → (xCl[j]?.map fun q => q.1) = some (cNm.getD j "") := by decide +kernel
      have h12 := hh _ h11
      rw [hc1] at h12
      exact (Option.some.inj h12).symm
    rw [this]
    exact hKn.2.1
  have hW1 : wOK V' D ad mm1 o H := fun k i hV => cell_keep (hW k i (hgl.1 k i hV)) rfl (fun j => congrArg I (hgl.2.1 mm1 k i hV j).symm) (fun _ => rfl)
  rw [show (avs.reverse ++ xr k i :: rest).map (cv ad) = (avs.map (cv ad)).reverse ++ .ref (ad k i) :: rest.map (cv ad) by rw [List.map_append, List.map_reverse]; rfl]
  exact Wx.afterL (g := g) hC hgl h5 hW hS hl hL (fun v hv' => hv v (List.mem_append_right _ (List.mem_cons_of_mem _ hv'))) (va_runV (As := avs.map (cv ad)) (rest := rest.map (cv ad)) ⟨hC.1, hC.2.1, hC.2.2.1, hC.2.2.2.1, hts⟩ (hM l V' D ad H.size hWF hok) cw ⟨xB_blind, hrec, fun U hU hWm => ⟨rfl, by rw [hU], by rw [hU]; exact hW1, va_K.moved hWm.alike hK, wNest_warm hWm hN⟩⟩ rfl (by rw [List.length_map]; exact hn) hl.1 rfl (lv_room (cat_le hrest)) hd ⟨hf.1, hf.2⟩) kk
/-- a number of the script -/
theorem Wx.sld {N : Nat} {xs : Nat → Int32} {pc : Nat} {z : Int} {L : List (Nat × AV)} {S : List AV} {mm : Mm} {o : Int64} (hC : Cx lawV own cc nL p R s m args meth c D ad A) (hX : va_X (ad 0 0) N xs s s.heap) (hb0 : ad 0 0 < s.heap.size ∧ ¬ A (ad 0 0)) (hN : N ≤ 5120) (hd : decode cc pc = .ok (.iaload, 1)) (h0 : 0 ≤ z) (h1 : z < N) (kk : Wx p l e R s m args below meth c cells slots Q lawV D ad A nL (pc + 1) L (xi (scr xs z) :: S) mm o) : Wx p l e R s m args below meth c cells slots Q lawV D ad A nL pc L (xi z :: xr 0 0 :: S) mm o := by
  intro H locs ls hW hS hl hL hv
  have h9 := I_cl (z := z) (n := N) h0 h1 (by omega)
  refine va_sld (i := I z) hC.1 hC.2.1 hX hb0.1 hb0.2 hS (I_in h0 h1 (by omega)) hd ?_
  have := kk H locs ls hW hS hl hL (fun v hv' => by
    rcases List.mem_cons.mp hv' with rfl | h
    · trivial
    · exact hv v (List.mem_cons_of_mem _ (List.mem_cons_of_mem _ h)))
  rw [show (xi (scr xs z) :: S).map (cv ad) = .int (xs (I z).toNatClampNeg) :: S.map (cv ad) by
    show Value.int (I (scr xs z)) :: _ = _
    unfold scr
    rw [I_toInt, show z.toNat = (I z).toNatClampNeg by omega]] at this
  exact this
theorem Wx.slen {N : Nat} {xs : Nat → Int32} {pc : Nat} {L : List (Nat × AV)} {S : List AV} {mm : Mm} {o : Int64} (hC : Cx lawV own cc nL p R s m args meth c D ad A) (hX : va_X (ad 0 0) N xs s s.heap) (hb0 : ad 0 0 < s.heap.size ∧ ¬ A (ad 0 0)) (hd : decode cc pc = .ok (.arraylength, 1)) (kk : Wx p l e R s m args below meth c cells slots Q lawV D ad A nL (pc + 1) L (xi (N : Int) :: S) mm o) : Wx p l e R s m args below meth c cells slots Q lawV D ad A nL pc L (xr 0 0 :: S) mm o := by
  intro H locs ls hW hS hl hL hv
  exact va_slen hC.1 hC.2.1 hX hb0.1 hb0.2 hS hd (kk H locs ls hW hS hl hL (fun v hv' => by
    rcases List.mem_cons.mp hv' with rfl | h
    · trivial
    · exact hv v (List.mem_cons_of_mem _ h)))
theorem Wx.reads {N : Nat} {xs : Nat → Int32} {z : Int} {L : List (Nat × AV)} {mm : Mm} {o : Int64} (hC : Cx lawV own cc nL p R s m args meth c D ad A) (hX : va_X (ad 0 0) N xs s s.heap) (hb0 : ad 0 0 < s.heap.size ∧ ¬ A (ad 0 0)) (hN : N ≤ 5120) (hL0 : lget L 0 = some (xr 0 0)) (hL4 : lget L 4 = some (xi z)) (h0 : 0 ≤ z) (hV0 : lawV 0 0) : ∀ (ns : List Nat) (pc : Nat) (S : List AV), rdOK cc pc ns = true → (∀ n ∈ ns, z + (n : Int) < N) → Wx p l e R s m args below meth c cells slots Q lawV D ad A nL (rdTo pc ns) L (rdS (scr xs) z ns S) mm o → Wx p l e R s m args below meth c cells slots Q lawV D ad A nL pc L S mm o
  | [], pc, S, _, _, h => h
  | n :: t, pc, S, hr, hn, h => by
    unfold rdOK at hr
    simp only [Bool.and_eq_true, decide_eq_true_eq] at hr
    obtain ⟨⟨⟨⟨⟨d0, d1⟩, d3⟩, d4⟩, d5⟩, hr'⟩ := hr
    have h' := Wx.reads hC hX hb0 hN hL0 hL4 h0 hV0 t _ _ hr' (fun q hq => hn q (List.mem_cons_of_mem _ hq)) h
    have h6 := Wx.sld hC hX hb0 hN d5 (z := z + (n : Int)) (by omega) (hn n List.mem_cons_self) h'
    intro H locs ls hW hS hl hL hv
    have hx := hC.1
    have hb := hC.2.1
    refine lv_aload_n hx hb d0 rfl (has_get hl hL0) ?_
    refine lv_iload hx hb d1 (has_get hl hL4) ?_
    have h7 := h6 H locs ls hW hS hl hL (fun v hv' => by
      rcases List.mem_cons.mp hv' with rfl | hv'
      · trivial
      · rcases List.mem_cons.mp hv' with rfl | hv'
        · exact hV0
        · exact hv v hv')
    have h8 : W p l e R s m args below meth c H locs cells slots Q (F0 m (pc + 3 + rdW n) ls (.int (I (n : Int)) :: .int (I z) :: .ref (ad 0 0) :: S.map (cv ad))) := by
      refine lv_iadd hx hb d4 ?_
      rw [← I_add]
      exact h7
    cases hb5 : Nat.ble n 5 with
    | true =>
      have e1 : rdW n = 1 := by unfold rdW; rw [hb5]; rfl
      rw [hb5] at d3
      simp only [cond_true, decide_eq_true_eq] at d3
      rw [e1] at h8
      exact lv_iconst hx hb d3 rfl h8
    | false =>
      have e1 : rdW n = 2 := by unfold rdW; rw [hb5]; rfl
      rw [hb5] at d3
      simp only [cond_false, Bool.and_eq_true, decide_eq_true_eq] at d3
      rw [e1] at h8
      have hn7 := Nat.le_of_ble_eq_true d3.2
      refine lv_bipush hx hb d3.1 (v := I (n : Int)) ?_ h8
      apply Int32.toInt_inj.mp
      rw [Int8.toInt_toInt32, Int8.toInt_ofInt, toInt_I, wr_of (by omega) (by omega), Int.bmod_def]
      show (if (n : Int) % 256 < (256 + 1) / 2 then (n : Int) % 256 else (n : Int) % 256 - 256) = n
      omega
end CTX
