/-! ===== calls from the law's methods ===== -/
/-- a method of the law that returns: its contract -/
def MetN (y : MI) (k : Nat) (avs : List AV) (mm : Mm) (o : Int64) (F : FT) : Prop := ∀ (l : Launch) (V : Nat → Int → Prop) (D : DD) (ad : Nat → Int → Nat) (sz : Nat), l.stackTraces = false → WF V ad → (∀ v ∈ avs, okl V v) → Met l y.1 (mws y) (mrmT y k) (xPW V D ad avs mm o sz) (xQ V D ad F sz) k (6 * k) (wA V ad sz)
section CTX
variable {p : Program} {l : Launch} {e : Env} {R : Room} {s : State} {m : MethodId} {args : Array Value} {below : List Frame} {meth : Method} {c : Code} {cells slots : Nat} {Q : State → Prop} {V : Nat → Int → Prop} {D : DD} {ad : Nat → Int → Nat} {A : Nat → Prop} {nL : Nat} {own : String} {cc : ByteArray}
theorem MetN.of {y : MI} {k : Nat} {avs : List AV} {mm : Mm} {o : Int64} {F : FT} (rt : Nat) (hy : plainName y.1.cls = true) (hrt : rtOK rt y.2.2.2.1 = true) (hrt3 : rt = 1 ∨ rt = 2) (hlen : avs.length ≤ y.2.2.1) (hfr : 1 ≤ y.2.2.2.2.2.1 ∧ 21 ≤ y.2.2.2.2.2.2)
    (body : ∀ (p : Program) (l : Launch) (e : Env) (s : State) (m : MethodId) (args : Array Value) (below : List Frame) (meth : Method) (c : Code) (Q : State → Prop) (V : Nat → Int → Prop) (D : DD) (ad : Nat → Int → Nat), Cx V y.1.cls y.2.1 y.2.2.1 p (mrmT y k) s m args meth c D ad (wA V ad s.heap.size) → wNest s → wThr (wA V ad s.heap.size) s → wNar s → l.stackTraces = false → (∀ v ∈ avs, okl V v) →
      (∀ r mm o, F r mm o → rOK p l e (mrmT y k) s m args below meth c k (6 * k) Q V D ad (wA V ad s.heap.size) y.2.1 rt r mm o) → Wx p l e (mrmT y k) s m args below meth c 0 0 Q V D ad (wA V ad s.heap.size) y.2.2.1 0 (lent 0 avs) [] mm o) : MetN y k avs mm o F := by
  intro l V D ad sz hst hWF hok
  refine Met.ofW (cc := y.2.1) (maxL := y.2.2.1) (ret := y.2.2.2.1) hy rfl ?_
  intro p e s m args below meth c s₁ B hml hv
  obtain ⟨rfl, ⟨hsz, hW, hK, hN⟩, hT, hR⟩ := hv
  have hx := B.exec
  have hb := B.bytes
  have hr := B.returns
  have hts := atoms_spec (ws := mws y) B.pre
  have hown : s.vm.findClass y.1.cls = some m.cls := findClass_of_methodNamed B.named
  have hlocks := B.notSynchronized
  subst hsz
  have hC : Cx V y.1.cls y.2.1 y.2.2.1 p (mrmT y k) s m ((avs.map (cv ad)).toArray) meth c D ad (wA V ad s.heap.size) :=
    ⟨hx, hb, hml, hown, fun w hw => hts w (List.mem_cons_of_mem _ hw), hK, fun k i h hk => Or.inl ⟨k, i, h, hk, rfl⟩, fun q h => Or.inr h, hWF.1, hWF.2, hlocks, hfr.1, hfr.2⟩
  have hbody := body p l e s m ((avs.map (cv ad)).toArray) below meth c (MQ below (xQ V D ad F s.heap.size) ((avs.map (cv ad)).toArray) s k (6 * k) (wA V ad s.heap.size)) V D ad hC hN hT hR hst hok ?_
  · have hl := lv_entry (avs.map (cv ad)) (n := y.2.2.1) (by rw [lent_len avs hok]; exact hlen)
    rw [lg_entry_eq]
    rw [lent_args avs 0 hok] at hl
    exact hbody s.heap [] _ hW va_S.rf hl (lent_ok avs 0 hok) (fun v h => by cases h)
  · intro r mm' o' hF H locs pc ls hW' hS' hv'
    refine ⟨fun h0 _ _ => ?_, fun z hz hr0 hd => ?_, fun q h3 hr0 hd => ?_⟩
    · rcases hrt3 with h | h <;> rw [h] at h0 <;> exact absurd h0 (by decide)
    · subst hr0
      rcases hz with rfl | ⟨rfl, h01⟩
      · have hret : meth.sig.returnType = some .int := by
          rw [hr]
          cases h : y.2.2.2.1 with
          | none => rw [h] at hrt; cases hrt
          | some t => rw [h] at hrt; cases t <;> first | rfl | cases hrt
        exact W.iret hx hb hret (fun t ht hWt => ⟨⟨some (xi z), mm', o', rfl, hv', hF, by rw [ht]; exact hW'⟩, hS'.F ht⟩) hS'.2.2 hd
      · have hret : meth.sig.returnType = some .boolean := by
          rw [hr]
          cases h : y.2.2.2.1 with
          | none => rw [h] at hrt; cases hrt
          | some t => rw [h] at hrt; cases t <;> first | rfl | cases hrt
        refine W.zret hx hb hret ?_ (fun t ht hWt => ⟨⟨some (xi z), mm', o', rfl, hv', hF, by rw [ht]; exact hW'⟩, hS'.F ht⟩) hS'.2.2 hd
        rcases h01 with rfl | rfl <;> decide +kernel
    · rcases hrt3 with h | h <;> rw [h] at h3 <;> exact absurd h3 (by decide)
theorem wpn {pc : Nat} {L : List (Nat × AV)} {S : List AV} {mm : Mm} {o : Int64} (hC : Cx V own cc nL p R s m args meth c D ad A) (hcs : cells ≤ R.cells ∧ slots ≤ R.slots) {C : CT} (hcode : C.all (cOK own cc) = true) {rt : Nat} {F : FT}
    (hF : ∀ r mm o, F r mm o → rOK p l e R s m args below meth c cells slots Q V D ad A cc rt r mm o) (stops : List Nat) (n : Nat) (h : wp C rt nL stops (Wx p l e R s m args below meth c cells slots Q V D ad A nL) F n pc L S mm o) : Wx p l e R s m args below meth c cells slots Q V D ad A nL pc L S mm o :=
  wp_ok hC hcs hcode (fun _ _ _ _ _ h => h) hF n pc L S mm o h
/-- steps that don't return -/
theorem wpk {pc : Nat} {L : List (Nat × AV)} {S : List AV} {mm : Mm} {o : Int64} (hC : Cx V own cc nL p R s m args meth c D ad A) (hcs : cells ≤ R.cells ∧ slots ≤ R.slots) {C : CT} (hcode : C.all (cOK own cc) = true) (stops : List Nat) (n : Nat) (h : wp C 1 nL stops (Wx p l e R s m args below meth c cells slots Q V D ad A nL) (fun _ _ _ => False) n pc L S mm o) : Wx p l e R s m args below meth c cells slots Q V D ad A nL pc L S mm o :=
  wp_ok hC hcs hcode (fun _ _ _ _ _ h => h) (fun _ _ _ h => h.elim) n pc L S mm o h
theorem wA_sub {V' : Nat → Int → Prop} {H : Heap} {locs : List Loc} (hC : Cx V own cc nL p R s m args meth c D ad A) (hS : va_S A s.heap H locs) (hV : ∀ k i, V' k i → V k i) : ∀ q, wA V' ad H.size q → A q := by
  intro q hq
  rcases hq with ⟨k, i, h, hk0, rfl⟩ | hq
  · exact hC.2.2.2.2.2.2.1 k i (hV k i h) hk0
  · exact hC.2.2.2.2.2.2.2.1 q (Nat.le_trans hS.1 hq)
theorem link_of {C : CT} (hcode : C.all (cOK own cc) = true) {pc idx nx sl dc ty rc p1 p2 : Nat} {sj : Int} (hg : cget C pc = some (.invokevirtual idx, nx, sl, sj, dc, ty, rc, p1, p2)) : decode cc pc = .ok (.invokevirtual idx, 3) ∧ lw_tbl[p1]? = some (.methodLink own idx (mNm.getD rc mNm0)) ∧ goodWord (.methodLink own idx (mNm.getD rc mNm0)) = true := by
  have he := List.all_eq_true.mp hcode _ (cget_mem hg)
  obtain ⟨hd, hnx⟩ := cOK_spec he 3 rfl (by decide)
  refine ⟨hd, ?_⟩
  unfold cOK at he
  simp only [Bool.and_eq_true, decide_eq_true_eq] at he
  exact he.2
theorem link_ofS {C : CT} (hcode : C.all (cOK own cc) = true) {pc idx nx sl ty rc p1 p2 : Nat} {sj : Int} (hg : cget C pc = some (.invokestatic idx, nx, sl, sj, 0, ty, rc, p1, p2)) (hrc0 : Nat.beq rc 0 = false) : decode cc pc = .ok (.invokestatic idx, 3) ∧ lw_tbl[p1]? = some (.methodLink own idx (mNm.getD rc mNm0)) ∧ goodWord (.methodLink own idx (mNm.getD rc mNm0)) = true := by
  have he := List.all_eq_true.mp hcode _ (cget_mem hg)
  obtain ⟨hd, hnx⟩ := cOK_spec he 3 rfl (by decide)
  refine ⟨hd, ?_⟩
  unfold cOK at he
  simp only [Bool.and_eq_true] at he
  have h1 := he.2
  rw [show Nat.beq 0 0 = true from rfl] at h1
  simp only [cond_true, hrc0, Bool.false_or, Bool.and_eq_true, decide_eq_true_eq] at h1
  exact h1
theorem rcv_of (hC : Cx V own cc nL p R s m args meth c D ad A) {mm : Mm} {o : Int64} {H : Heap} (hW : wOK V D ad mm o H) {y : MI} {ks : Nat} {i : Int} (hV : V ks i) (hk : kt ks = 1 ∧ cNm.getD (kc ks) "" = y.1.cls) : ∃ cellB : Cell, H[ad ks i]? = some cellB ∧ cellB.vm.isStatics = false ∧ s.vm.findClass y.1.cls = some cellB.cls := by
  obtain ⟨C1, T1, hc1, -, hKn⟩ := cx_xc hC hk.1
  obtain ⟨cell, q1, q2, q3, -⟩ := cell1 (hW ks i hV) hk.1
  refine ⟨cell, q1, by rw [q3]; rfl, ?_⟩
  rw [q2, ← hk.2]
  have : cNm.getD (kc ks) "" = C1 := by
    have h11 := kc_tab ks (kt_lt hk.1 (by decide)) hk.1
    have hh : ∀ j, j < 11 → (xCl[j]?.map fun q => q.1) = some (cNm.getD j "") := by decide +kernel
    have h12 := hh _ h11
    rw [hc1] at h12
    exact (Option.some.inj h12).symm
  rw [this]
  exact hKn.2.1
/-- a static method that doesn't throw here, a deep stack -/
theorem Wx.sT {y : MI} {n k : Nat} {avs rest : List AV} {mm : Mm} {o : Int64} {F : FT} {G : XT} {pc : Nat} {L : List (Nat × AV)} (hC : Cx V own cc nL p R s m args meth c D ad A) (hN : wNest s) (hT : wThr A s) (hst : l.stackTraces = false) {C : CT} (hcode : C.all (cOK own cc) = true) {idx nx sl ty rc p1 p2 : Nat} {sj : Int} (hg : cget C pc = some (.invokestatic idx, nx, sl, sj, 0, ty, rc, p1, p2)) (hrc0 : Nat.beq rc 0 = false) (hrc : mNm.getD rc mNm0 = y.1) (hy : mOKs y n) (hrm : y.2.2.2.2.2.1 + 1 ≤ R.frames ∧ 12 + (y.2.2.1 + 11) + y.2.2.2.2.2.2 ≤ R.locals)
    (hM : MetT y k avs mm o F G) (hG : ∀ E m' o', ¬ G E m' o') (hn : avs.length = n) (hrest : rest.length ≤ 12) (hnl : nolong rest = true) (hav : nolong avs = true) (hf : cells + k ≤ R.cells ∧ slots + 6 * k ≤ R.slots)
    (kk : ∀ r mm' o', F r mm' o' → Wx p l e R s m args below meth c (cells + k) (slots + 6 * k) Q V D ad A nL (pc + 3) L (r.toList ++ rest) mm' o') : Wx p l e R s m args below meth c cells slots Q V D ad A nL pc L (avs.reverse ++ rest) mm o := by
  intro H locs ls hW hS hl hL hv
  obtain ⟨hd, hw⟩ := link_ofS hcode hg hrc0
  rw [hrc] at hw
  have hts := hC.2.2.2.2.1
  obtain ⟨⟨hyc, hyi, hyn⟩, hyS⟩ := hy
  have cw : CallB R s args own idx y.1 y.2.1 y.2.2.1 y.2.2.2.1 (mws y) (mrmT y k) k (6 * k) n ∧ (Cond.static y.1).before args s = true :=
    ⟨callB_of n hts (mws_good y hyc) rfl rfl rfl (hts _ hyi) (hts _ (uw p1 hw.1 hw.2)) hyn ⟨hrm.1, by have := hrm.2; show 8 + (y.2.2.1 + 11) + y.2.2.2.2.2.2 ≤ R.locals; omega⟩, hts _ hyS⟩
  have hWF : WF V ad := ⟨hC.2.2.2.2.2.2.2.2.1, hC.2.2.2.2.2.2.2.2.2.1⟩
  have hok : ∀ v ∈ avs, okl V v := fun v h => nol hav v h (hv v (List.mem_append_left _ (List.mem_reverse.mpr h)))
  have hvr : ∀ v ∈ rest, okv V v := fun v hv' => hv v (List.mem_append_right _ hv')
  have hK := hC.2.2.2.2.2.1
  rw [show (avs.reverse ++ rest).map (cv ad) = (avs.map (cv ad)).reverse ++ rest.map (cv ad) by rw [List.map_append, List.map_reverse]]
  refine Wx.afterG hC hS hl hL hvr (run_of (vx_runS12 (As := avs.map (cv ad)) (rest := rest.map (cv ad)) ⟨hC.1, hC.2.1, hC.2.2.1, hC.2.2.2.1, hts⟩ (hM l V D ad H.size hst hWF hok) cw hrm.2 ⟨xPT_blind, fun U hU hWm => ⟨rfl, ⟨by rw [hU], by rw [hU]; exact hW, va_K.moved hWm.alike hK, wNest_warm hWm hN⟩, hT.call hS hWm hU (wA_sub hC hS (fun _ _ h => h))⟩⟩ rfl (by rw [List.length_map]; exact hn) hl.1 rfl (by
    show 2 * 0 + _ ≤ 12
    have := cat_le12 (ad := ad) (V := V) (fun v hv' => nol hnl v hv' (hvr v hv')) hrest
    omega) hd hf) hG) kk
/-- a method of the class that doesn't throw here -/
theorem Wx.cT {y : MI} {n k : Nat} {avs rest : List AV} {a w : Mm} {o : Int64} {F : FT} {G : XT} {pc : Nat} {L : List (Nat × AV)} (hC : Cx V own cc nL p R s m args meth c D ad A) (hN : wNest s) (hT : wThr A s) (hst : l.stackTraces = false) {C : CT} (hcode : C.all (cOK own cc) = true) {idx nx sl dc ty rc p1 p2 : Nat} {sj : Int} (hg : cget C pc = some (.invokevirtual idx, nx, sl, sj, dc, ty, rc, p1, p2)) (hrc : mNm.getD rc mNm0 = y.1) (hy : mOKv y n) (hrm : y.2.2.2.2.2.1 + 1 ≤ R.frames ∧ 8 + (y.2.2.1 + 11) + y.2.2.2.2.2.2 ≤ R.locals) (hcl : y.1.cls = RX10)
    (hM : MetT y k (xr 1 0 :: avs) a o F G) (hG : ∀ E m' o', ¬ G E m' o') (hn : avs.length = n) (hrest : rest.length ≤ 4) (hav : allI avs = true) (hf : cells + k ≤ R.cells ∧ slots + 6 * k ≤ R.slots)
    (kk : ∀ r a' o', F r a' o' → Wx p l e R s m args below meth c (cells + k) (slots + 6 * k) Q V D ad A nL (pc + 3) L (r.toList ++ rest) (mix a' w) o') : Wx p l e R s m args below meth c cells slots Q V D ad A nL pc L (avs.reverse ++ xr 1 0 :: rest) (mix a w) o := by
  intro H locs ls hW hS hl hL hv
  obtain ⟨hd, hw⟩ := link_of hcode hg
  rw [hrc] at hw
  have hts := hC.2.2.2.2.1
  obtain ⟨⟨hyc, hyi, hyn⟩, hyI, hyS⟩ := hy
  have hV1 : V 1 0 := hv (xr 1 0) (List.mem_append_right _ List.mem_cons_self)
  have cw : CallW R s args own y.1.cls idx y.1 y.2.1 y.2.2.1 y.2.2.2.1 (mws y) (mrmT y k) k (6 * k) n :=
    ⟨callB_of n hts (mws_good y hyc) rfl rfl rfl (hts _ hyi) (hts _ (uw p1 hw.1 hw.2)) hyn hrm, hts _ hyI, hts _ hyS⟩
  have hWF : WF (cV V) ad := wf_cV ⟨hC.2.2.2.2.2.2.2.2.1, hC.2.2.2.2.2.2.2.2.2.1⟩
  have hok : ∀ v ∈ xr 1 0 :: avs, okl (cV V) v := fun v hv' => by
    rcases List.mem_cons.mp hv' with rfl | h
    · exact ⟨hV1, by decide⟩
    · exact allI_okl hav v h
  have hK := hC.2.2.2.2.2.1
  have hW1 := wOK_cV hW
  have hrec := rcv_of hC hW (y := y) hV1 ⟨rfl, hcl.symm⟩
  rw [show (avs.reverse ++ xr 1 0 :: rest).map (cv ad) = (avs.map (cv ad)).reverse ++ .ref (ad 1 0) :: rest.map (cv ad) by rw [List.map_append, List.map_reverse]; rfl]
  exact Wx.afterC hC hW hS hl hL (fun v hv' => hv v (List.mem_append_right _ (List.mem_cons_of_mem _ hv'))) (run_of (vx_runV (As := avs.map (cv ad)) (rest := rest.map (cv ad)) ⟨hC.1, hC.2.1, hC.2.2.1, hC.2.2.2.1, hts⟩ (hM l (cV V) D ad H.size hst hWF hok) cw ⟨xPT_blind, hrec, fun U hU hWm => ⟨rfl, ⟨by rw [hU], by rw [hU]; exact hW1, va_K.moved hWm.alike hK, wNest_warm hWm hN⟩, hT.call hS hWm hU (wA_sub hC hS (fun _ _ h => h.1))⟩⟩ rfl (by rw [List.length_map]; exact hn) hl.1 rfl (lv_room (cat_le hrest)) hd hf) hG) kk
/-- a method of the class that never throws -/
theorem Wx.cX {y : MI} {n : Nat} {avs rest : List AV} {a w : Mm} {o : Int64} {F : FT} {pc : Nat} {L : List (Nat × AV)} (hC : Cx V own cc nL p R s m args meth c D ad A) (hN : wNest s) {C : CT} (hcode : C.all (cOK own cc) = true) {idx nx sl dc ty rc p1 p2 : Nat} {sj : Int} (hg : cget C pc = some (.invokevirtual idx, nx, sl, sj, dc, ty, rc, p1, p2)) (hrc : mNm.getD rc mNm0 = y.1) (hy : mOKv y n) (hrm : y.2.2.2.2.2.1 + 1 ≤ R.frames ∧ 8 + (y.2.2.1 + 11) + y.2.2.2.2.2.2 ≤ R.locals) (hcl : y.1.cls = RX10)
    (hM : MetX y (xr 1 0 :: avs) a o F) (hn : avs.length = n) (hrest : rest.length ≤ 4) (hav : allI avs = true) (hf : cells ≤ R.cells ∧ slots ≤ R.slots)
    (kk : ∀ r a' o', F r a' o' → Wx p l e R s m args below meth c cells slots Q V D ad A nL (pc + 3) L (r.toList ++ rest) (mix a' w) o') : Wx p l e R s m args below meth c cells slots Q V D ad A nL pc L (avs.reverse ++ xr 1 0 :: rest) (mix a w) o := by
  intro H locs ls hW hS hl hL hv
  obtain ⟨hd, hw⟩ := link_of hcode hg
  rw [hrc] at hw
  have hts := hC.2.2.2.2.1
  obtain ⟨⟨hyc, hyi, hyn⟩, hyI, hyS⟩ := hy
  have hV1 : V 1 0 := hv (xr 1 0) (List.mem_append_right _ List.mem_cons_self)
  have cw : CallW R s args own y.1.cls idx y.1 y.2.1 y.2.2.1 y.2.2.2.1 (mws y) (mrm y) 0 0 n :=
    ⟨callB_of n hts (mws_good y hyc) rfl rfl rfl (hts _ hyi) (hts _ (uw p1 hw.1 hw.2)) hyn hrm, hts _ hyI, hts _ hyS⟩
  have hWF : WF (cV V) ad := wf_cV ⟨hC.2.2.2.2.2.2.2.2.1, hC.2.2.2.2.2.2.2.2.2.1⟩
  have hok : ∀ v ∈ xr 1 0 :: avs, okl (cV V) v := fun v hv' => by
    rcases List.mem_cons.mp hv' with rfl | h
    · exact ⟨hV1, by decide⟩
    · exact allI_okl hav v h
  have hK := hC.2.2.2.2.2.1
  have hW1 := wOK_cV hW
  have hrec := rcv_of hC hW (y := y) hV1 ⟨rfl, hcl.symm⟩
  rw [show (avs.reverse ++ xr 1 0 :: rest).map (cv ad) = (avs.map (cv ad)).reverse ++ .ref (ad 1 0) :: rest.map (cv ad) by rw [List.map_append, List.map_reverse]; rfl]
  exact Wx.afterC hC hW hS hl hL (fun v hv' => hv v (List.mem_append_right _ (List.mem_cons_of_mem _ hv'))) (va_runV (As := avs.map (cv ad)) (rest := rest.map (cv ad)) ⟨hC.1, hC.2.1, hC.2.2.1, hC.2.2.2.1, hts⟩ (hM l (cV V) D ad H.size hWF hok) cw ⟨xB_blind, hrec, fun U hU hWm => ⟨rfl, by rw [hU], by rw [hU]; exact hW1, va_K.moved hWm.alike hK, wNest_warm hWm hN⟩⟩ rfl (by rw [List.length_map]; exact hn) hl.1 rfl (lv_room (cat_le hrest)) hd ⟨hf.1, hf.2⟩) kk
def mOKw (y : MI) (hh : HT) (n : Nat) : Prop := Cond.codeWith y.1 y.2.1 y.2.2.1 y.2.2.2.1 hh ∈ UW ∧ Cond.initialized y.1.cls ∈ UW ∧ Cond.static y.1 ∈ UW ∧ (y.1.cls ≠ "java/lang/invoke/MethodHandle" ∧ y.1.cls ≠ "java/lang/invoke/VarHandle" ∧ (parseMethodDescriptor y.1.desc).map (fun d => d.parameters.length) = some n)
/-- a wrapper -/
theorem Wx.cW {y : MI} {hh : HT} {n k : Nat} {avs rest : List AV} {a w : Mm} {o : Int64} {F : FT} {pc : Nat} {L : List (Nat × AV)} (hC : Cx V own cc nL p R s m args meth c D ad A) (hN : wNest s) (hT : wThr A s) (hR : wNar s) (hst : l.stackTraces = false) {C : CT} (hcode : C.all (cOK own cc) = true) {idx nx sl ty rc p1 p2 : Nat} {sj : Int} (hg : cget C pc = some (.invokestatic idx, nx, sl, sj, 0, ty, rc, p1, p2)) (hrc0 : Nat.beq rc 0 = false) (hrc : mNm.getD rc mNm0 = y.1) (hy : mOKw y hh n) (hrm : y.2.2.2.2.2.1 + 1 ≤ R.frames ∧ 8 + (y.2.2.1 + 11) + y.2.2.2.2.2.2 ≤ R.locals)
    (hM : MetW y hh k (xr 1 0 :: avs) a o F) (hn : avs.length + 1 = n) (hrest : rest.length ≤ 4) (hav : allI avs = true) (hf : cells + k ≤ R.cells ∧ slots + 6 * k ≤ R.slots)
    (kk : ∀ r a' o', F r a' o' → Wx p l e R s m args below meth c (cells + k) (slots + 6 * k) Q V D ad A nL (pc + 3) L (r.toList ++ rest) (mix a' w) o') : Wx p l e R s m args below meth c cells slots Q V D ad A nL pc L (avs.reverse ++ xr 1 0 :: rest) (mix a w) o := by
  intro H locs ls hW hS hl hL hv
  obtain ⟨hd, hw⟩ := link_ofS hcode hg hrc0
  rw [hrc] at hw
  have hts := hC.2.2.2.2.1
  obtain ⟨hyc, hyi, hyS, hyn⟩ := hy
  have hV1 : V 1 0 := hv (xr 1 0) (List.mem_append_right _ List.mem_cons_self)
  have hgood : GoodIn UW (va_wsS own idx y.1 (mwsH y hh)) := uw_good (fun w hw' => by
    unfold va_wsS at hw'
    rcases List.mem_append.mp hw' with h | h
    · simp only [List.mem_cons, List.not_mem_nil, or_false] at h
      rcases h with rfl | rfl | rfl
      · exact uw p1 hw.1 hw.2
      · exact hyS
      · exact hyi
    · rcases List.mem_cons.mp h with rfl | h
      · exact hyc
      · exact h)
  have cw : vx_CSW R s args own idx y.1 y.2.1 y.2.2.1 y.2.2.2.1 hh (mwsH y hh) (mrmT y k) k (6 * k) n :=
    vx_cwSW n hts hgood rfl rfl rfl hyn hrm
  have hWF : WF (cV V) ad := wf_cV ⟨hC.2.2.2.2.2.2.2.2.1, hC.2.2.2.2.2.2.2.2.2.1⟩
  have hok : ∀ v ∈ xr 1 0 :: avs, okl (cV V) v := fun v hv' => by
    rcases List.mem_cons.mp hv' with rfl | h
    · exact ⟨hV1, by decide⟩
    · exact allI_okl hav v h
  have hK := hC.2.2.2.2.2.1
  have hW1 := wOK_cV hW
  rw [show (avs.reverse ++ xr 1 0 :: rest).map (cv ad) = ((xr 1 0 :: avs).map (cv ad)).reverse ++ rest.map (cv ad) by rw [List.map_append, List.map_reverse, List.map_cons, List.map_cons, List.reverse_cons, List.append_assoc]; rfl]
  exact Wx.afterC hC hW hS hl hL (fun v hv' => hv v (List.mem_append_right _ (List.mem_cons_of_mem _ hv'))) (vx_runSW (As := (xr 1 0 :: avs).map (cv ad)) (rest := rest.map (cv ad)) ⟨hC.1, hC.2.1, hC.2.2.1, hC.2.2.2.1, hts⟩ (hM l (cV V) D ad H.size hst hWF hok) cw ⟨xPW_blind, fun U hU hWm => ⟨rfl, ⟨by rw [hU], by rw [hU]; exact hW1, va_K.moved hWm.alike hK, wNest_warm hWm hN⟩, hT.call hS hWm hU (wA_sub hC hS (fun _ _ h => h.1)), wNar_warm hWm hR⟩⟩ rfl (by rw [List.length_map, List.length_cons]; exact hn) hl.1 rfl (lv_room (cat_le hrest)) hd hf) kk
/-- another method of the law -/
theorem Wx.sN {y : MI} {n k : Nat} {avs rest : List AV} {mm : Mm} {o : Int64} {F : FT} {pc : Nat} {L : List (Nat × AV)} (hC : Cx V own cc nL p R s m args meth c D ad A) (hN : wNest s) (hT : wThr A s) (hR : wNar s) (hst : l.stackTraces = false) {C : CT} (hcode : C.all (cOK own cc) = true) {idx nx sl ty rc p1 p2 : Nat} {sj : Int} (hg : cget C pc = some (.invokestatic idx, nx, sl, sj, 0, ty, rc, p1, p2)) (hrc0 : Nat.beq rc 0 = false) (hrc : mNm.getD rc mNm0 = y.1) (hy : mOKs y n) (hrm : y.2.2.2.2.2.1 + 1 ≤ R.frames ∧ 8 + (y.2.2.1 + 11) + y.2.2.2.2.2.2 ≤ R.locals)
    (hM : MetN y k avs mm o F) (hn : avs.length = n) (hrest : rest.length ≤ 4) (hav : nolong avs = true) (hf : cells + k ≤ R.cells ∧ slots + 6 * k ≤ R.slots)
    (kk : ∀ r mm' o', F r mm' o' → Wx p l e R s m args below meth c (cells + k) (slots + 6 * k) Q V D ad A nL (pc + 3) L (r.toList ++ rest) mm' o') : Wx p l e R s m args below meth c cells slots Q V D ad A nL pc L (avs.reverse ++ rest) mm o := by
  intro H locs ls hW hS hl hL hv
  obtain ⟨hd, hw⟩ := link_ofS hcode hg hrc0
  rw [hrc] at hw
  have hts := hC.2.2.2.2.1
  obtain ⟨⟨hyc, hyi, hyn⟩, hyS⟩ := hy
  have cw : CallB R s args own idx y.1 y.2.1 y.2.2.1 y.2.2.2.1 (mws y) (mrmT y k) k (6 * k) n ∧ (Cond.static y.1).before args s = true :=
    ⟨callB_of n hts (mws_good y hyc) rfl rfl rfl (hts _ hyi) (hts _ (uw p1 hw.1 hw.2)) hyn hrm, hts _ hyS⟩
  have hWF : WF V ad := ⟨hC.2.2.2.2.2.2.2.2.1, hC.2.2.2.2.2.2.2.2.2.1⟩
  have hok : ∀ v ∈ avs, okl V v := fun v h => nol hav v h (hv v (List.mem_append_left _ (List.mem_reverse.mpr h)))
  have hK := hC.2.2.2.2.2.1
  rw [show (avs.reverse ++ rest).map (cv ad) = (avs.map (cv ad)).reverse ++ rest.map (cv ad) by rw [List.map_append, List.map_reverse]]
  exact Wx.afterG hC hS hl hL (fun v hv' => hv v (List.mem_append_right _ hv')) (va_runS (As := avs.map (cv ad)) (rest := rest.map (cv ad)) ⟨hC.1, hC.2.1, hC.2.2.1, hC.2.2.2.1, hts⟩ (hM l V D ad H.size hst hWF hok) cw ⟨xPW_blind, fun U hU hWm => ⟨rfl, ⟨by rw [hU], by rw [hU]; exact hW, va_K.moved hWm.alike hK, wNest_warm hWm hN⟩, hT.call hS hWm hU (wA_sub hC hS (fun _ _ h => h)), wNar_warm hWm hR⟩⟩ rfl (by rw [List.length_map]; exact hn) hl.1 rfl (lv_room (cat_le hrest)) hd hf) kk
end CTX
