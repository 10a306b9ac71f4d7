/-! ===== the law's wrappers: methods that catch ===== -/
def wNar (U : State) : Prop := va_Nc xIa xIx U ∧ va_Nc xIs xIx U ∧ va_Nc xIs xIa U
theorem wNar_warm {s U : State} (hW : s.WarmedH U.vm) (h : wNar s) : wNar U := ⟨h.1.moved hW.alike, h.2.1.moved hW.alike, h.2.2.moved hW.alike⟩
abbrev HT : Type := List (Nat × Nat × Nat × Nat)
def mwsH (y : MI) (hh : HT) : List Cond := .codeWith y.1 y.2.1 y.2.2.1 y.2.2.2.1 hh :: UW
def xPW (V : Nat → Int → Prop) (D : DD) (ad : Nat → Int → Nat) (avs : List AV) (mm : Mm) (o : Int64) (sz : Nat) : Array Value → State → Prop := va_Pc (avs.map (cv ad)) (fun U => xB V D ad mm o sz U ∧ wThr (wA V ad sz) U ∧ wNar U)
/-- a wrapper's contract: it returns an int -/
def MetW (y : MI) (hh : HT) (k : Nat) (avs : List AV) (mm : Mm) (o : Int64) (F : FT) : Prop := ∀ (l : Launch) (V : Nat → Int → Prop) (D : DD) (ad : Nat → Int → Nat) (sz : Nat), l.stackTraces = false → WF V ad → (∀ v ∈ avs, okl V v) → Met l y.1 (mwsH y hh) (mrmT y k) (xPW V D ad avs mm o sz) (xQ V D ad F sz) k (6 * k) (wA V ad sz)
theorem xPW_blind {V : Nat → Int → Prop} {D : DD} {ad : Nat → Int → Nat} {avs : List AV} {mm : Mm} {o : Int64} {sz : Nat} : FrameBlind (xPW V D ad avs mm o sz) := by
  intro a U g mk h
  obtain ⟨h0, h1, h2, h3⟩ := h
  obtain ⟨g0, g1, g2⟩ := xPT_blind (V := V) (D := D) (ad := ad) (avs := avs) (mm := mm) (o := o) (sz := sz) a U g mk ⟨h0, h1, h2⟩
  exact ⟨g0, g1, g2, h3.1.moved (u := U) (U := U.calling g mk a) (Vm.Alike.refl U.vm), h3.2.1.moved (u := U) (U := U.calling g mk a) (Vm.Alike.refl U.vm), h3.2.2.moved (u := U) (U := U.calling g mk a) (Vm.Alike.refl U.vm)⟩
section CTX
variable {p : Program} {l : Launch} {e : Env} {R : Room} {s : State} {m : MethodId} {args : Array Value} {below : List Frame} {meth : Method} {c : Code} {cells slots : Nat} {Q : State → Prop} {V : Nat → Int → Prop} {D : DD} {ad : Nat → Int → Nat} {A : Nat → Prop} {nL : Nat} {own : String} {cc : ByteArray}
theorem MetW.of {y : MI} {hh : HT} {k : Nat} {avs : List AV} {mm : Mm} {o : Int64} {F : FT} (hy : plainName y.1.cls = true) (hrt : y.2.2.2.1 = some .int) (hlen : avs.length ≤ y.2.2.1) (hfr : 1 ≤ y.2.2.2.2.2.1 ∧ 21 ≤ y.2.2.2.2.2.2)
    (body : ∀ (p : Program) (l : Launch) (e : Env) (s : State) (m : MethodId) (args : Array Value) (below : List Frame) (meth : Method) (c : Code) (Q : State → Prop) (V : Nat → Int → Prop) (D : DD) (ad : Nat → Int → Nat), Cx V y.1.cls y.2.1 y.2.2.1 p (mrmT y k) s m args meth c D ad (wA V ad s.heap.size) → wNest s → wThr (wA V ad s.heap.size) s → wNar s → l.stackTraces = false → c.exceptionTable.toList = tableOf hh → (∀ v ∈ avs, okl V v) →
      (∀ r mm o, F r mm o → rOK p l e (mrmT y k) s m args below meth c k (6 * k) Q V D ad (wA V ad s.heap.size) y.2.1 1 r mm o) → Wx p l e (mrmT y k) s m args below meth c 0 0 Q V D ad (wA V ad s.heap.size) y.2.2.1 0 (lent 0 avs) [] mm o) : MetW y hh k avs mm o F := by
  intro l V D ad sz hst hWF hok
  refine va_MetW (cc := y.2.1) (maxL := y.2.2.1) (ret := y.2.2.2.1) (hh := hh) hy rfl ?_
  intro p e s m args below meth c s₁ B hml hv
  obtain ⟨rfl, ⟨hsz, hW, hK, hN⟩, hT, hR⟩ := hv
  have hx := B.exec
  have hb := B.bytes
  have hr := B.returns
  have hts := atoms_spec (ws := mwsH y hh) B.pre
  have hown : s.vm.findClass y.1.cls = some m.cls := findClass_of_methodNamed B.named
  have hlocks := B.notSynchronized
  have htab : c.exceptionTable.toList = tableOf hh := vx_table (x := y.1) B (hts _ List.mem_cons_self)
  subst hsz
  have hC : Cx V y.1.cls y.2.1 y.2.2.1 p (mrmT y k) s m ((avs.map (cv ad)).toArray) meth c D ad (wA V ad s.heap.size) :=
    ⟨hx, hb, hml, hown, fun w hw => hts w (List.mem_cons_of_mem _ hw), hK, fun k i h hk => Or.inl ⟨k, i, h, hk, rfl⟩, fun q h => Or.inr h, hWF.1, hWF.2, hlocks, hfr.1, hfr.2⟩
  have hbody := body p l e s m ((avs.map (cv ad)).toArray) below meth c (MQ below (xQ V D ad F s.heap.size) ((avs.map (cv ad)).toArray) s k (6 * k) (wA V ad s.heap.size)) V D ad hC hN hT hR hst htab hok ?_
  · have hl := lv_entry (avs.map (cv ad)) (n := y.2.2.1) (by rw [lent_len avs hok]; exact hlen)
    rw [lg_entry_eq]
    rw [lent_args avs 0 hok] at hl
    exact hbody s.heap [] _ hW va_S.rf hl (lent_ok avs 0 hok) (fun v h => by cases h)
  · intro r mm' o' hF H locs pc ls hW' hS' hv'
    refine ⟨fun h0 _ _ => absurd h0 (by decide), fun z hz hr0 hd => ?_, fun q h3 hr0 hd => absurd h3 (by decide)⟩
    subst hr0
    rcases hz with h1 | ⟨h1, -⟩
    · have hret : meth.sig.returnType = some .int := by rw [hr, hrt]
      exact W.iret hx hb hret (fun t ht hWt => ⟨⟨some (xi z), mm', o', rfl, hv', hF, by rw [ht]; exact hW'⟩, hS'.F ht⟩) hS'.2.2 hd
    · exact absurd h1 (by decide)
theorem wpw {y : MI} {k pc : Nat} {L : List (Nat × AV)} {S : List AV} {mm : Mm} {o : Int64} (hC : Cx V own cc nL p (mrmT y k) s m args meth c D ad A) {C : CT} (hcode : C.all (cOK own cc) = true) {rt : Nat} {F : FT}
    (hF : ∀ r mm o, F r mm o → rOK p l e (mrmT y k) s m args below meth c k (6 * k) Q V D ad A cc rt r mm o) (stops : List Nat) (n : Nat) (h : wp C rt nL stops (Wx p l e (mrmT y k) s m args below meth c k (6 * k) Q V D ad A nL) F n pc L S mm o) : Wx p l e (mrmT y k) s m args below meth c k (6 * k) Q V D ad A nL pc L S mm o :=
  wp_ok hC ⟨Nat.le_refl _, Nat.le_refl _⟩ hcode (fun _ _ _ _ _ h => h) hF n pc L S mm o h
theorem wpw0 {y : MI} {k pc : Nat} {L : List (Nat × AV)} {S : List AV} {mm : Mm} {o : Int64} (hC : Cx V own cc nL p (mrmT y k) s m args meth c D ad A) {C : CT} (hcode : C.all (cOK own cc) = true) {rt : Nat} (stops : List Nat) (n : Nat) (h : wp C rt nL stops (Wx p l e (mrmT y k) s m args below meth c 0 0 Q V D ad A nL) (fun _ _ _ => False) n pc L S mm o) : Wx p l e (mrmT y k) s m args below meth c 0 0 Q V D ad A nL pc L S mm o :=
  wp_ok hC ⟨Nat.zero_le _, Nat.zero_le _⟩ hcode (fun _ _ _ _ _ h => h) (fun _ _ _ h => h.elim) n pc L S mm o h
/-- a handler's first row puts the thrown away -/
theorem hand {H : Heap} {locs : List Loc} {ls : Array Slot} {q pc j : Nat} {mm : Mm} {o : Int64} (hC : Cx V own cc nL p R s m args meth c D ad A) (hd : decode cc pc = .ok (.astore j, 2)) (hj : j < nL) (hW : wOK V D ad mm o H) (hS : va_S A s.heap H locs) (hl : lv_has ls nL []) (kk : Wx p l e R s m args below meth c cells slots Q V D ad A nL (pc + 2) [] [] mm o) : W p l e R s m args below meth c H locs cells slots Q (F0 m pc ls [.ref q]) :=
  lv_astore (lv' := [(j, .ref q)]) hC.1 hC.2.1 hd hl hj rfl (fun ls2 hl2 => kk H locs ls2 hW hS ⟨hl2.1, hl2.2.1, fun x hx => by cases hx⟩ (fun x hx => by cases hx) (fun x hx => by cases hx))
theorem hand_n {H : Heap} {locs : List Loc} {ls : Array Slot} {q pc : Nat} {j : Fin 4} {mm : Mm} {o : Int64} (hC : Cx V own cc nL p R s m args meth c D ad A) (hd : decode cc pc = .ok (.astore_n j, 1)) (hj : (j : Nat) < nL) (hW : wOK V D ad mm o H) (hS : va_S A s.heap H locs) (hl : lv_has ls nL []) (kk : Wx p l e R s m args below meth c cells slots Q V D ad A nL (pc + 1) [] [] mm o) : W p l e R s m args below meth c H locs cells slots Q (F0 m pc ls [.ref q]) :=
  lv_astore_n (lv' := [((j : Nat), .ref q)]) hC.1 hC.2.1 hd rfl hl hj rfl (fun ls2 hl2 => kk H locs ls2 hW hS ⟨hl2.1, hl2.2.1, fun x hx => by cases hx⟩ (fun x hx => by cases hx) (fun x hx => by cases hx))
/-- a wrapper's call of the class -/
theorem Wx.wcall {x y : MI} {n k : Nat} {ks : Nat} {i : Int} {avs rest : List AV} {mm : Mm} {o : Int64} {F' : FT} {G' : XT} {pc : Nat} {L : List (Nat × AV)} (hC : Cx V own cc nL p (mrmT x k) s m args meth c D ad (wA V ad s.heap.size)) (hN : wNest s) (hT : wThr (wA V ad s.heap.size) s) (hst : l.stackTraces = false) {C : CT} (hcode : C.all (cOK own cc) = true) {idx nx sl dc ty rc p1 p2 : Nat} {sj : Int} (hg : cget C pc = some (.invokevirtual idx, nx, sl, sj, dc, ty, rc, p1, p2)) (hrc : mNm.getD rc mNm0 = y.1) (hy : mOKv y n) (hrm : rmT x y = true)
    (hM : MetT y k (xr ks i :: avs) mm o F' G') (hk : kt ks = 1 ∧ cNm.getD (kc ks) "" = y.1.cls) (hn : avs.length = n) (hrest : rest.length ≤ 4) (hav : ∀ v ∈ avs, okv V v → okl V v)
    (kk : ∀ r mm' o', F' r mm' o' → Wx p l e (mrmT x k) s m args below meth c k (6 * k) Q V D ad (wA V ad s.heap.size) nL (pc + 3) L (r.toList ++ rest) mm' o')
    (kx : ∀ E mm' o', G' E mm' o' → ∀ (H : Heap) (locs : List Loc) (ls : Array Slot) (ce : Cell) (q : Nat), wOK V D ad mm' o' H → va_S (wA V ad s.heap.size) s.heap H locs → lv_has ls nL [] → H[q]? = some ce → ce.vm = .none → s.vm.findClass E = some ce.cls → vx_W p l e (mrmT x k) s m args below meth c H locs k (6 * k) Q (F0 m pc ls (rest.map (cv ad))) q) : Wx p l e (mrmT x k) s m args below meth c 0 0 Q V D ad (wA V ad s.heap.size) nL pc L (avs.reverse ++ xr ks i :: rest) mm o := by
  intro H locs ls hW hS hl hL hv
  have he := List.all_eq_true.mp hcode _ (cget_mem hg)
  obtain ⟨hd, hnx⟩ := cOK_spec he 3 rfl (by decide)
  have hw : lw_tbl[p1]? = some (.methodLink own idx (mNm.getD rc mNm0)) ∧ goodWord (.methodLink own idx (mNm.getD rc mNm0)) = true := by
    unfold cOK at he
    simp only [Bool.and_eq_true, decide_eq_true_eq] at he
    exact he.2
  rw [hrc] at hw
  have hts := hC.2.2.2.2.1
  obtain ⟨⟨hyc, hyi, hyn⟩, hyI, hyS⟩ := hy
  have hVki : V ks i := hv (xr ks i) (List.mem_append_right _ List.mem_cons_self)
  obtain ⟨r1, r2⟩ := Bool.and_eq_true _ _ ▸ hrm
  have cw : CallW (mrmT x k) s args own y.1.cls idx y.1 y.2.1 y.2.2.1 y.2.2.2.1 (mws y) (mrmT y k) k (6 * k) n :=
    ⟨callB_of n hts (mws_good y hyc) rfl rfl rfl (hts _ hyi) (hts _ (uw p1 hw.1 hw.2)) hyn ⟨Nat.le_of_ble_eq_true r1, Nat.le_of_ble_eq_true r2⟩, hts _ hyI, hts _ hyS⟩
  have hWF : WF V ad := ⟨hC.2.2.2.2.2.2.2.2.1, hC.2.2.2.2.2.2.2.2.2.1⟩
  have hokA : ∀ v ∈ avs, okv V v := fun v hv' => hv v (List.mem_append_left _ (List.mem_reverse.mpr hv'))
  have hok : ∀ v ∈ xr ks i :: avs, okl V v := fun v hv' => by
    rcases List.mem_cons.mp hv' with rfl | h
    · exact hVki
    · exact hav v h (hokA v h)
  have hK := hC.2.2.2.2.2.1
  have hrec : ∃ cellB : Cell, H[ad ks i]? = some cellB ∧ cellB.vm.isStatics = false ∧ s.vm.findClass y.1.cls = some cellB.cls := by
    obtain ⟨C1, T1, hc1, -, hKn⟩ := cx_xc hC hk.1
    obtain ⟨cell, q1, q2, q3, -⟩ := cell1 (hW ks i hVki) hk.1
    refine ⟨cell, q1, by rw [q3]; rfl, ?_⟩
    rw [q2, ← hk.2]
    have : cNm.getD (kc ks) "" = C1 := by
      have h11 := kc_tab ks (kt_lt hk.1 (by decide)) hk.1
      have hh : ∀ j, j < 11 → (xCl[j]?.map fun q => q.1) = some (cNm.getD j "") := by decide +kernel
      have h12 := hh _ h11
      rw [hc1] at h12
      exact (Option.some.inj h12).symm
    rw [this]
    exact hKn.2.1
  have hA : ∀ q, wA V ad H.size q → wA V ad s.heap.size q := by
    intro q hq
    rcases hq with ⟨k, i, hV, hk0, rfl⟩ | hq
    · exact hC.2.2.2.2.2.2.1 k i hV hk0
    · exact hC.2.2.2.2.2.2.2.1 q (Nat.le_trans hS.1 hq)
  rw [show (avs.reverse ++ xr ks i :: rest).map (cv ad) = (avs.map (cv ad)).reverse ++ .ref (ad ks i) :: rest.map (cv ad) by rw [List.map_append, List.map_reverse]; rfl]
  have hr := vx_runV (l := l) (e := e) (below := below) (meth := meth) (locs := locs) (cells := 0) (slots := 0) (g := F0 m pc ls ((avs.map (cv ad)).reverse ++ .ref (ad ks i) :: rest.map (cv ad))) (As := avs.map (cv ad)) (rest := rest.map (cv ad)) ⟨hC.1, hC.2.1, hC.2.2.1, hC.2.2.2.1, hts⟩ (hM l V D ad H.size hst hWF hok) cw ⟨xPT_blind, hrec, fun U hU hWm => ⟨rfl, ⟨by rw [hU], by rw [hU]; exact hW, va_K.moved hWm.alike hK, wNest_warm hWm hN⟩, hT.call hS hWm hU hA⟩⟩ rfl (by rw [List.length_map]; exact hn) hl.1 rfl (lv_room (cat_le hrest)) hd ⟨by show 0 + k ≤ k; omega, by show 0 + 6 * k ≤ 6 * k; omega⟩
  intro T hT X
  rcases hr T hT X with ⟨v, st₀, t, T', L', h0, X', hL', e1, e2, ⟨⟨r, mm', o', hvr, hokr, hF, hW'⟩, hz, hkq⟩, stp⟩ | ⟨q, st₀, t, T', L', E, ce, h0, X', hL', e1, e2, ⟨⟨mm', o', hGE, hW'⟩, hz, hkq⟩, hce, hcv, hcl, stp⟩
  all_goals rw [h0] at hz hkq
  all_goals have hS' : va_S (wA V ad s.heap.size) s.heap T'.heap (locs ++ L') := ⟨Nat.le_trans hS.1 (by rw [e1]; exact hz), fun q h1 h2 => by rw [e1, hkq q (Nat.lt_of_lt_of_le h1 hS.1) (fun z => h2 (hA q z))]; exact hS.2.1 q h1 h2, fun q hq => by
        rcases List.mem_append.mp hq with h | h
        · exact hS.2.2 q h
        · exact hA _ (hL' q h)⟩
  all_goals rw [Nat.zero_add, Nat.zero_add] at X'
  · cases hvr
    obtain ⟨t2, a1, b1⟩ := kk r mm' o' hF T'.heap (locs ++ L') ls (by rw [e1]; exact hW') hS' hl hL (fun w hw => by
        rcases List.mem_append.mp hw with h | h
        · cases r with
          | none => cases h
          | some x => rw [List.mem_singleton.mp h]; exact hokr x rfl
        · exact hv w (List.mem_append_right _ (List.mem_cons_of_mem _ h))) T' rfl X'
    refine ⟨t2, stp t2 ?_, b1⟩
    cases r with
    | none => exact a1
    | some x => exact a1
  · obtain ⟨t2, a1, b1⟩ := kx E mm' o' hGE T'.heap (locs ++ L') ls ce q (by rw [e1]; exact hW') hS' ⟨hl.1, hl.2.1, fun x hx => by cases hx⟩ (by rw [e1]; exact hce) hcv hcl T' rfl X'
    exact ⟨t2, stp.trans a1, b1⟩
end CTX
