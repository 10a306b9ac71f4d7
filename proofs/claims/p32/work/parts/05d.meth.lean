/-! ===== contracts of methods, entries, returns, calls ===== -/
/-- name, bytes, locals, type of the answer; 0 void 1 int 2 boolean 3 reference; frames and words of locals below -/
abbrev MI : Type := MethodName × ByteArray × Nat × Option FieldType × Nat × Nat × Nat
def mws (y : MI) : List Cond := .code y.1 y.2.1 y.2.2.1 y.2.2.2.1 :: UW
def mrm (y : MI) : Room := { frames := y.2.2.2.2.2.1, cells := 0, slots := 0, locals := y.2.2.2.2.2.2 }
def rtOK (rt : Nat) (ret : Option FieldType) : Bool := match ret with
  | none => Nat.beq rt 0
  | some .int => Nat.beq rt 1
  | some .boolean => Nat.beq rt 2
  | some (.object _) => Nat.beq rt 3
  | _ => false
def wA (V : Nat → Int → Prop) (ad : Nat → Int → Nat) (sz : Nat) : Nat → Prop := fun q => (∃ (k : Nat) (i : Int), V k i ∧ kt k ≠ 0 ∧ q = ad k i) ∨ sz ≤ q
def wNest (U : State) : Prop := va_Nw (.methodLinkNest RX5 60 yX10_angle RX10) U ∧ va_Nw (.methodLinkNest RX7 32 yX10_angle RX10) U
def WF (V : Nat → Int → Prop) (ad : Nat → Int → Nat) : Prop := (∀ k i k' i', V k i → V k' i' → ad k i = ad k' i' → k = k' ∧ i = i') ∧
  ((∀ k i sl q, V k i → kt k = 1 → sl < kn k → rfo k i sl = some q → V q.1 q.2) ∧ (∀ (k : Nat) (i z : Int) (q : Nat × Int), V k i → kt k = 4 → 0 ≤ z → z < (kn k : Int) → rfa k i z = some q → V q.1 q.2) ∧ (∀ k i, V k i → kt k ≠ 0 → 0 ≤ i ∧ i < km k))
def xB (V : Nat → Int → Prop) (D : DD) (ad : Nat → Int → Nat) (mm : Mm) (o : Int64) (sz : Nat) : State → Prop := fun U => U.heap.size = sz ∧ wOK V D ad mm o U.heap ∧ va_K (D.1, D.2.1) xCl (tysOf D) U ∧ wNest U
def xP (V : Nat → Int → Prop) (D : DD) (ad : Nat → Int → Nat) (avs : List AV) (mm : Mm) (o : Int64) (sz : Nat) : Array Value → State → Prop := va_Pc (avs.map (cv ad)) (xB V D ad mm o sz)
def xQ (V : Nat → Int → Prop) (D : DD) (ad : Nat → Int → Nat) (F : FT) (sz : Nat) : Array Value → State → Outcome → State → Prop := fun _ st oc t => (∃ (r : Option AV) (mm : Mm) (o : Int64), oc = .returned (r.map (cv ad)) ∧ (∀ v, r = some v → okv V v) ∧ F r mm o ∧ wOK V D ad mm o t.heap) ∧ va_F (wA V ad sz) st t
def MetX (y : MI) (avs : List AV) (mm : Mm) (o : Int64) (F : FT) : Prop := ∀ (l : Launch) (V : Nat → Int → Prop) (D : DD) (ad : Nat → Int → Nat) (sz : Nat), WF V ad → (∀ v ∈ avs, okl V v) → Met l y.1 (mws y) (mrm y) (xP V D ad avs mm o sz) (xQ V D ad F sz) 0 0 (wA V ad sz)
def lent : Nat → List AV → List (Nat × AV)
  | _, [] => []
  | i, v :: t => (i, v) :: lent (i + 1) t
theorem lent_args {ad : Nat → Int → Nat} {V : Nat → Int → Prop} : ∀ (vs : List AV) (i : Nat), (∀ v ∈ vs, okl V v) → lv_args i (vs.map (cv ad)) = (lent i vs).map fun q => (q.1, cv ad q.2)
  | [], i, _ => rfl
  | v :: t, i, h => by
    have h1 := cv_cat (ad := ad) (h v List.mem_cons_self)
    simp only [List.map_cons, lv_args, lent, h1]
    rw [if_neg (by decide), lent_args t (i + 1) (fun w hw => h w (List.mem_cons_of_mem _ hw))]
theorem lent_len {ad : Nat → Int → Nat} {V : Nat → Int → Prop} : ∀ (vs : List AV), (∀ v ∈ vs, okl V v) → (lg_sl (vs.map (cv ad))).length = vs.length
  | [], _ => rfl
  | v :: t, h => by
    have h1 := cv_cat (ad := ad) (h v List.mem_cons_self)
    have ih := lent_len (ad := ad) t (fun w hw => h w (List.mem_cons_of_mem _ hw))
    simp only [lg_sl, List.map_cons, List.flatMap_cons, h1, List.length_append, List.length_cons] at ih ⊢
    rw [ih]
    simp; omega
theorem lent_ok {V : Nat → Int → Prop} : ∀ (vs : List AV) (i : Nat), (∀ v ∈ vs, okl V v) → ∀ q ∈ lent i vs, okl V q.2
  | [], i, _, q, hq => by cases hq
  | v :: t, i, h, q, hq => by
    rcases List.mem_cons.mp hq with rfl | hq
    · exact h v List.mem_cons_self
    · exact lent_ok t (i + 1) (fun w hw => h w (List.mem_cons_of_mem _ hw)) q hq
section CTX
variable {p : Program} {l : Launch} {e : Env} {R : Room} {s : State} {m : MethodId} {args : Array Value} {below : List Frame} {meth : Method} {c : Code} {cells slots : Nat} {Q : State → Prop} {V : Nat → Int → Prop} {D : DD} {ad : Nat → Int → Nat} {A : Nat → Prop} {nL : Nat} {own : String} {cc : ByteArray}
theorem xB_blind {avs : List AV} {mm : Mm} {o : Int64} {sz : Nat} : FrameBlind (xP V D ad avs mm o sz) := by
  intro a U g mk h
  obtain ⟨h0, h1, h2, h3, h4⟩ := h
  exact ⟨h0, h1, h2, va_K.moved (u := U) (U := U.calling g mk a) (Vm.Alike.refl U.vm) h3, h4.1.same rfl rfl, h4.2.same rfl rfl⟩
theorem wNest_warm {U : State} (hW : s.WarmedH U.vm) (h : wNest s) : wNest U := ⟨h.1.warmM hW, h.2.warmM hW⟩
theorem lt_of_wOK {mm : Mm} {o : Int64} {H : Heap} (hW : wOK V D ad mm o H) {k : Nat} {i : Int} (hV : V k i) (hk : kt k ≠ 0) : ad k i < H.size := by
  have h := hW k i hV
  by_cases h1 : kt k = 1
  · obtain ⟨cell, q, -⟩ := cell1 h h1
    exact (Array.getElem?_eq_some_iff.mp q).1
  · by_cases h4 : kt k = 4
    · exact (Array.getElem?_eq_some_iff.mp (cell4 h h4)).1
    · by_cases h5 : kt k = 5
      · exact (Array.getElem?_eq_some_iff.mp (cell5 h h5)).1
      · have h23 : kt k = 2 ∨ kt k = 3 := by
          have q : ∀ k, k < 102 → kt k ≤ 5 := by decide +kernel
          rcases Nat.lt_or_ge k 102 with z | z
          · have := q k z; omega
          · exfalso; apply hk
            show ktL.getD k 0 = 0
            rw [List.getD_eq_getElem?_getD, List.getElem?_eq_none (by exact z)]; rfl
        exact (Array.getElem?_eq_some_iff.mp (cell23 h h23)).1
/-- a method's contract out of its body -/
theorem MetX.of {y : MI} {avs : List AV} {mm : Mm} {o : Int64} {F : FT} (rt : Nat) (hy : plainName y.1.cls = true) (hrt : rtOK rt y.2.2.2.1 = true) (hlen : avs.length ≤ y.2.2.1) (hfr : 1 ≤ y.2.2.2.2.2.1 ∧ 21 ≤ y.2.2.2.2.2.2)
    (body : ∀ (p : Program) (l : Launch) (e : Env) (s : State) (m : MethodId) (args : Array Value) (below : List Frame) (meth : Method) (c : Code) (Q : State → Prop) (V : Nat → Int → Prop) (D : DD) (ad : Nat → Int → Nat) (A : Nat → Prop), Cx V y.1.cls y.2.1 y.2.2.1 p (mrm y) s m args meth c D ad A → wNest s → (∀ v ∈ avs, okl V v) →
      (∀ r mm o, F r mm o → rOK p l e (mrm y) s m args below meth c 0 0 Q V D ad A y.2.1 rt r mm o) → Wx p l e (mrm y) s m args below meth c 0 0 Q V D ad A y.2.2.1 0 (lent 0 avs) [] mm o) : MetX y avs mm o F := by
  intro l V D ad sz hWF hok
  refine Met.ofW (cc := y.2.1) (maxL := y.2.2.1) (ret := y.2.2.2.1) hy rfl ?_
  intro p e s m args below meth c s₁ B hml hv
  obtain ⟨rfl, hsz, hW, hK, hN⟩ := hv
  have hx := B.exec
  have hb := B.bytes
  have hr := B.returns
  have hts := atoms_spec (ws := mws y) B.pre
  have hown : s.vm.findClass y.1.cls = some m.cls := findClass_of_methodNamed B.named
  have hlocks := B.notSynchronized
  subst hsz
  have hC : Cx V y.1.cls y.2.1 y.2.2.1 p (mrm y) s m ((avs.map (cv ad)).toArray) meth c D ad (wA V ad s.heap.size) :=
    ⟨hx, hb, hml, hown, fun w hw => hts w (List.mem_cons_of_mem _ hw), hK, fun k i h hk => Or.inl ⟨k, i, h, hk, rfl⟩, fun q h => Or.inr h, hWF.1, hWF.2, hlocks, hfr.1, hfr.2⟩
  have hbody := body p l e s m ((avs.map (cv ad)).toArray) below meth c (MQ below (xQ V D ad F s.heap.size) ((avs.map (cv ad)).toArray) s 0 0 (wA V ad s.heap.size)) V D ad (wA V ad s.heap.size) hC hN hok ?_
  · have hl := lv_entry (avs.map (cv ad)) (n := y.2.2.1) (by rw [lent_len avs hok]; exact hlen)
    rw [lg_entry_eq]
    rw [lent_args avs 0 hok] at hl
    exact hbody s.heap [] _ hW va_S.rf hl (lent_ok avs 0 hok) (fun v h => by cases h)
  · intro r mm' o' hF H locs pc ls hW' hS' hv'
    refine ⟨fun h0 hr0 hd => ?_, fun z hz hr0 hd => ?_, fun q h3 hr0 hd => ?_⟩
    · subst h0; subst hr0
      have hret : meth.sig.returnType = none := by
        rw [hr]
        cases h : y.2.2.2.1 with
        | none => rfl
        | some t => rw [h] at hrt; cases t <;> cases hrt
      exact W.vret hx hb hret (fun t ht hWt => ⟨⟨none, mm', o', rfl, hv', hF, by rw [ht]; exact hW'⟩, hS'.F ht⟩) hS'.2.2 hd
    · subst hr0
      rcases hz with rfl | ⟨rfl, h01⟩
      · have hret : meth.sig.returnType = some .int := by
          rw [hr]
          cases h : y.2.2.2.1 with
          | none => rw [h] at hrt; cases hrt
          | some t => rw [h] at hrt; cases t <;> first | rfl | cases hrt
        exact W.iret hx hb hret (fun t ht hWt => ⟨⟨some (xi z), mm', o', rfl, hv', hF, by rw [ht]; exact hW'⟩, hS'.F ht⟩) hS'.2.2 hd
      · have hret : meth.sig.returnType = some .boolean := by
          rw [hr]
          cases h : y.2.2.2.1 with
          | none => rw [h] at hrt; cases hrt
          | some t => rw [h] at hrt; cases t <;> first | rfl | cases hrt
        refine W.zret hx hb hret ?_ (fun t ht hWt => ⟨⟨some (xi z), mm', o', rfl, hv', hF, by rw [ht]; exact hW'⟩, hS'.F ht⟩) hS'.2.2 hd
        rcases h01 with rfl | rfl <;> decide +kernel
    · subst hr0; subst h3
      have hret : ∃ n, meth.sig.returnType = some (.object n) := by
        rw [hr]
        cases h : y.2.2.2.1 with
        | none => rw [h] at hrt; cases hrt
        | some t => rw [h] at hrt; cases t <;> first | exact ⟨_, rfl⟩ | cases hrt
      obtain ⟨n, hret⟩ := hret
      exact W.aret hx hb hret (Or.inl ⟨n, rfl⟩) (Or.inr ⟨_, rfl⟩) (fun t ht hWt => ⟨⟨some (.inr (.inr q)), mm', o', rfl, hv', hF, by rw [ht]; exact hW'⟩, hS'.F ht⟩) hS'.2.2 hd
/-- behind a call -/
theorem Wx.after {F : FT} {pc : Nat} {L : List (Nat × AV)} {rest : List AV} {ls : Array Slot} {st0 : List Value} {a : Array Value} {H : Heap} {locs : List Loc} (hC : Cx V own cc nL p R s m args meth c D ad A) (hS : va_S A s.heap H locs) (hl : lv_has ls nL (L.map fun q => (q.1, cv ad q.2))) (hL : ∀ q ∈ L, okl V q.2) (hv : ∀ v ∈ rest, okv V v)
    (hr : va_Run p l e R s m args below meth c H locs cells slots 0 0 (F0 m pc ls st0) (rest.map (cv ad)) (xQ V D ad F H.size a) (wA V ad H.size))
    (kk : ∀ r mm' o', F r mm' o' → Wx p l e R s m args below meth c cells slots Q V D ad A nL (pc + 3) L (r.toList ++ rest) mm' o') : W p l e R s m args below meth c H locs cells slots Q (F0 m pc ls st0) := by
  intro T hT X
  obtain ⟨v, st₀, t, T', L', h0, X', hL', e1, e2, ⟨⟨r, mm', o', hvr, hokr, hF, hW'⟩, hz, hk⟩, stp⟩ := hr T hT X
  cases hvr
  rw [h0] at hz hk
  have hA : ∀ q, wA V ad H.size q → A q := by
    intro q hq
    rcases hq with ⟨k, i, hV, hk0, rfl⟩ | hq
    · exact hC.2.2.2.2.2.2.1 k i hV hk0
    · exact hC.2.2.2.2.2.2.2.1 q (Nat.le_trans hS.1 hq)
  have hS' : va_S A s.heap T'.heap (locs ++ L') := ⟨Nat.le_trans hS.1 (by rw [e1]; exact hz), fun q h1 h2 => by rw [e1, hk q (Nat.lt_of_lt_of_le h1 hS.1) (fun z => h2 (hA q z))]; exact hS.2.1 q h1 h2, fun q hq => by
      rcases List.mem_append.mp hq with h | h
      · exact hS.2.2 q h
      · exact hA _ (hL' q h)⟩
  obtain ⟨t2, a1, b1⟩ := kk r mm' o' hF T'.heap (locs ++ L') ls (by rw [e1]; exact hW') hS' hl hL (fun w hw => by
      rcases List.mem_append.mp hw with h | h
      · cases r with
        | none => cases h
        | some x => rw [List.mem_singleton.mp h]; exact hokr x rfl
      · exact hv w h) T' rfl X'
  refine ⟨t2, stp t2 ?_, b1⟩
  cases r with
  | none => exact a1
  | some x => exact a1
/-- what the tables say of a method -/
def mOK (y : MI) (n : Nat) : Prop := Cond.code y.1 y.2.1 y.2.2.1 y.2.2.2.1 ∈ UW ∧ Cond.initialized y.1.cls ∈ UW ∧ (y.1.cls ≠ "java/lang/invoke/MethodHandle" ∧ y.1.cls ≠ "java/lang/invoke/VarHandle" ∧ (parseMethodDescriptor y.1.desc).map (fun d => d.parameters.length) = some n)
def mOKv (y : MI) (n : Nat) : Prop := mOK y n ∧ Cond.instanceMethod y.1 ∈ UW ∧ Cond.selects y.1.cls y.1 y.1 ∈ UW
def mOKs (y : MI) (n : Nat) : Prop := mOK y n ∧ Cond.static y.1 ∈ UW
/-- the room of a call: callee y from caller x -/
def rmOK (x y : MI) : Bool := Nat.ble (y.2.2.2.2.2.1 + 1) x.2.2.2.2.2.1 && Nat.ble (8 + (y.2.2.1 + 11) + y.2.2.2.2.2.2) x.2.2.2.2.2.2
theorem mws_good (y : MI) (hy : Cond.code y.1 y.2.1 y.2.2.1 y.2.2.2.1 ∈ UW) : GoodIn UW (mws y) := uw_good (fun w hw => (List.mem_cons.mp hw).elim (fun q => by rw [q]; exact hy) (fun q => q))
theorem cat_le {S : List AV} (h : S.length ≤ 4) : ((S.map (cv ad)).map fun v => v.category).sum ≤ 8 := by
  have h1 : ∀ S' : List AV, ((S'.map (cv ad)).map fun v => v.category).sum ≤ 2 * S'.length := by
    intro S'
    induction S' with
    | nil => exact Nat.le_refl _
    | cons v t ih =>
      simp only [List.map_cons, List.sum_cons, List.length_cons]
      have : (cv ad v).category ≤ 2 := by
        rcases lv_cat (cv ad v) with q | q <;> omega
      omega
  have := h1 S
  omega
theorem Wx.callV {x y : MI} {n : Nat} {k : Nat} {i : Int} {avs rest : List AV} {mm : Mm} {o : Int64} {F : FT} {pc : Nat} {L : List (Nat × AV)} (hC : Cx V own cc nL p (mrm x) s m args meth c D ad A) (hN : wNest s) {C : CT} (hcode : C.all (cOK own cc) = true) {idx nx sl dc ty rc p1 p2 : Nat} {sj : Int} (hg : cget C pc = some (.invokevirtual idx, nx, sl, sj, dc, ty, rc, p1, p2)) (hrc : mNm.getD rc mNm0 = y.1) (hy : mOKv y n) (hrm : rmOK x y = true)
    (hM : MetX y (xr k i :: avs) mm o F) (hk : kt k = 1 ∧ cNm.getD (kc k) "" = y.1.cls) (hn : avs.length = n) (hrest : rest.length ≤ 4) (hav : ∀ v ∈ avs, okv V v → okl V v)
    (kk : ∀ r mm' o', F r mm' o' → Wx p l e (mrm x) s m args below meth c 0 0 Q V D ad A nL (pc + 3) L (r.toList ++ rest) mm' o') : Wx p l e (mrm x) s m args below meth c 0 0 Q V D ad A nL pc L (avs.reverse ++ xr k i :: rest) mm o := by
  intro H locs ls hW hS hl hL hv
  have he := List.all_eq_true.mp hcode _ (cget_mem hg)
  obtain ⟨hd, hnx⟩ := cOK_spec he 3 rfl (by decide)
  have hw : lw_tbl[p1]? = some (.methodLink own idx (mNm.getD rc mNm0)) ∧ goodWord (.methodLink own idx (mNm.getD rc mNm0)) = true := by
    unfold cOK at he
    simp only [Bool.and_eq_true, decide_eq_true_eq] at he
    exact he.2
  rw [hrc] at hw
  have hts := hC.2.2.2.2.1
  obtain ⟨⟨hyc, hyi, hyn⟩, hyI, hyS⟩ := hy
  have hVki : V k i := hv (xr k i) (List.mem_append_right _ List.mem_cons_self)
  obtain ⟨r1, r2⟩ := Bool.and_eq_true _ _ ▸ hrm
  have cw : CallW (mrm x) s args own y.1.cls idx y.1 y.2.1 y.2.2.1 y.2.2.2.1 (mws y) (mrm y) 0 0 n :=
    ⟨callB_of n hts (mws_good y hyc) rfl rfl rfl (hts _ hyi) (hts _ (uw p1 hw.1 hw.2)) hyn ⟨Nat.le_of_ble_eq_true r1, Nat.le_of_ble_eq_true r2⟩, hts _ hyI, hts _ hyS⟩
  have hWF : WF V ad := ⟨hC.2.2.2.2.2.2.2.2.1, hC.2.2.2.2.2.2.2.2.2.1⟩
  have hokA : ∀ v ∈ avs, okv V v := fun v hv' => hv v (List.mem_append_left _ (List.mem_reverse.mpr hv'))
  have hok : ∀ v ∈ xr k i :: avs, okl V v := fun v hv' => by
    rcases List.mem_cons.mp hv' with rfl | h
    · exact hVki
    · exact hav v h (hokA v h)
  have hK := hC.2.2.2.2.2.1
  have hrec : ∃ cellB : Cell, H[ad k i]? = some cellB ∧ cellB.vm.isStatics = false ∧ s.vm.findClass y.1.cls = some cellB.cls := by
    obtain ⟨C1, T1, hc1, -, hKn⟩ := cx_xc hC hk.1
    obtain ⟨cell, q1, q2, q3, -⟩ := cell1 (hW k i hVki) hk.1
    refine ⟨cell, q1, by rw [q3]; rfl, ?_⟩
    rw [q2, ← hk.2]
    have : cNm.getD (kc k) "" = C1 := by
      have h11 := kc_tab k (kt_lt hk.1 (by decide)) hk.1
      have hh : ∀ j, j < 11 → (xCl[j]?.map fun q => q.1) = some (cNm.getD j "") := by decide +kernel
      have h12 := hh _ h11
      rw [hc1] at h12
      exact (Option.some.inj h12).symm
    rw [this]
    exact hKn.2.1
  rw [show (avs.reverse ++ xr k i :: rest).map (cv ad) = (avs.map (cv ad)).reverse ++ .ref (ad k i) :: rest.map (cv ad) by rw [List.map_append, List.map_reverse]; rfl]
  refine Wx.after hC hS hl hL (fun v hv' => hv v (List.mem_append_right _ (List.mem_cons_of_mem _ hv'))) (va_runV (As := avs.map (cv ad)) (rest := rest.map (cv ad)) ⟨hC.1, hC.2.1, hC.2.2.1, hC.2.2.2.1, hts⟩ (hM l V D ad H.size hWF hok) cw ⟨xB_blind, hrec, fun U hU hWm => ⟨rfl, by rw [hU], by rw [hU]; exact hW, va_K.moved hWm.alike hK, wNest_warm hWm hN⟩⟩ rfl (by rw [List.length_map]; exact hn) hl.1 rfl (lv_room (cat_le hrest)) hd ⟨Nat.zero_le _, Nat.zero_le _⟩) kk
theorem Wx.callS {x y : MI} {n : Nat} {avs rest : List AV} {mm : Mm} {o : Int64} {F : FT} {pc : Nat} {L : List (Nat × AV)} (hC : Cx V own cc nL p (mrm x) s m args meth c D ad A) (hN : wNest s) {C : CT} (hcode : C.all (cOK own cc) = true) {idx nx sl ty rc p1 p2 : Nat} {sj : Int} (hg : cget C pc = some (.invokestatic idx, nx, sl, sj, 0, ty, rc, p1, p2)) (hrc0 : Nat.beq rc 0 = false) (hrc : mNm.getD rc mNm0 = y.1) (hy : mOKs y n) (hrm : rmOK x y = true)
    (hM : MetX y avs mm o F) (hn : avs.length = n) (hrest : rest.length ≤ 4) (hav : ∀ v ∈ avs, okv V v → okl V v)
    (kk : ∀ r mm' o', F r mm' o' → Wx p l e (mrm x) s m args below meth c 0 0 Q V D ad A nL (pc + 3) L (r.toList ++ rest) mm' o') : Wx p l e (mrm x) s m args below meth c 0 0 Q V D ad A nL pc L (avs.reverse ++ rest) mm o := by
  intro H locs ls hW hS hl hL hv
  have he := List.all_eq_true.mp hcode _ (cget_mem hg)
  obtain ⟨hd, hnx⟩ := cOK_spec he 3 rfl (by decide)
  have hw : lw_tbl[p1]? = some (.methodLink own idx (mNm.getD rc mNm0)) ∧ goodWord (.methodLink own idx (mNm.getD rc mNm0)) = true := by
    unfold cOK at he
    simp only [Bool.and_eq_true] at he
    have h1 := he.2
    rw [show Nat.beq 0 0 = true from rfl] at h1
    simp only [cond_true, hrc0, Bool.false_or, Bool.and_eq_true, decide_eq_true_eq] at h1
    exact h1
  rw [hrc] at hw
  have hts := hC.2.2.2.2.1
  obtain ⟨⟨hyc, hyi, hyn⟩, hyS⟩ := hy
  obtain ⟨r1, r2⟩ := Bool.and_eq_true _ _ ▸ hrm
  have cw : CallB (mrm x) s args own idx y.1 y.2.1 y.2.2.1 y.2.2.2.1 (mws y) (mrm y) 0 0 n ∧ (Cond.static y.1).before args s = true :=
    ⟨callB_of n hts (mws_good y hyc) rfl rfl rfl (hts _ hyi) (hts _ (uw p1 hw.1 hw.2)) hyn ⟨Nat.le_of_ble_eq_true r1, Nat.le_of_ble_eq_true r2⟩, hts _ hyS⟩
  have hWF : WF V ad := ⟨hC.2.2.2.2.2.2.2.2.1, hC.2.2.2.2.2.2.2.2.2.1⟩
  have hok : ∀ v ∈ avs, okl V v := fun v h => hav v h (hv v (List.mem_append_left _ (List.mem_reverse.mpr h)))
  have hK := hC.2.2.2.2.2.1
  rw [show (avs.reverse ++ rest).map (cv ad) = (avs.map (cv ad)).reverse ++ rest.map (cv ad) by rw [List.map_append, List.map_reverse]]
  refine Wx.after hC hS hl hL (fun v hv' => hv v (List.mem_append_right _ hv')) (va_runS (As := avs.map (cv ad)) (rest := rest.map (cv ad)) ⟨hC.1, hC.2.1, hC.2.2.1, hC.2.2.2.1, hts⟩ (hM l V D ad H.size hWF hok) cw ⟨xB_blind, fun U hU hWm => ⟨rfl, by rw [hU], by rw [hU]; exact hW, va_K.moved hWm.alike hK, wNest_warm hWm hN⟩⟩ rfl (by rw [List.length_map]; exact hn) hl.1 rfl (lv_room (cat_le hrest)) hd ⟨Nat.zero_le _, Nat.zero_le _⟩) kk
end CTX
