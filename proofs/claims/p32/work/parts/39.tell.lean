/-! ===== tell, III; same ===== -/
def xQtell (V : Nat → Int → Prop) (D : DD) (ad : Nat → Int → Nat) (sz : Nat) (j : Int) (a w : Mm) (n1 : Int) : Array Value → State → Outcome → State → Prop := fun _ st oc t => (∃ (q : Nat) (f : Int → Int) (o : Int64), oc = .returned (some (.ref q)) ∧ sz ≤ q ∧ (∀ k i, V k i → ad k i < q) ∧ DN (GT a n1) f (fun _ => True) ∧ wOK (vU V j) D (adU ad j q) (mix a (fill w j f)) o t.heap) ∧ va_F (wA V ad sz) st t
theorem wA_lt {V : Nat → Int → Prop} {ad : Nat → Int → Nat} {sz : Nat} {s : State} (h : s.heap.size = sz) : wA V ad sz = wA V ad s.heap.size := by rw [h]
set_option maxRecDepth 100000 in
set_option maxHeartbeats 1600000 in
theorem M_tell {a w : Mm} {j : Int} (o : Int64) (j0 : 0 ≤ j) (j1 : j < 2) (hI : IA a) (hn1 : rd w 40 0 1 ≤ rd a 5 0 7) (l : Launch) (V : Nat → Int → Prop) (D : DD) (ad : Nat → Int → Nat) (sz : Nat) (hst : l.stackTraces = false) (hWF : WF V ad) (hV1 : V 1 0) (hV40 : V 40 0) (hn : ¬ V 41 j) (hb0 : ∀ k i, V k i → kt k = 0 → ad k i < sz) : Met l iL_tell.1 (mws iL_tell) (mrmT iL_tell 80) (xPW V D ad [xr 1 0, xr 40 0] (mix a w) o sz) (xQtell V D ad sz j a w (rd w 40 0 1)) 80 (6 * 80) (wA V ad sz) := by
  refine Met.ofW (cc := cL_tell) (maxL := 4) (ret := some (.array .int)) (by decide +kernel) rfl ?_
  intro p e s m args below meth c s₁ B hml hv
  obtain ⟨rfl, ⟨hsz, hW, hK, hN⟩, hT, hR⟩ := hv
  have hx := B.exec
  have hb := B.bytes
  have hr := B.returns
  have hts := atoms_spec (ws := mws iL_tell) B.pre
  have hown : s.vm.findClass RL = some m.cls := findClass_of_methodNamed B.named
  have hlocks := B.notSynchronized
  subst hsz
  have hok : ∀ v ∈ ([xr 1 0, xr 40 0] : List AV), okl V v := by
    intro v hv
    simp only [List.mem_cons, List.not_mem_nil, or_false] at hv
    rcases hv with rfl | rfl
    · exact hV1
    · exact hV40
  have hC : Cx V RL cL_tell 4 p (mrmT iL_tell 80) s m ((([xr 1 0, xr 40 0] : List AV).map (cv ad)).toArray) meth c D ad (wA V ad s.heap.size) :=
    ⟨hx, hb, hml, hown, fun w hw => hts w (List.mem_cons_of_mem _ hw), hK, fun k i h hk => Or.inl ⟨k, i, h, hk, rfl⟩, fun q h => Or.inr h, hWF.1, hWF.2, hlocks, by decide, by decide⟩
  have hbody : Wx p l e (mrmT iL_tell 80) s m ((([xr 1 0, xr 40 0] : List AV).map (cv ad)).toArray) below meth c 0 0 (MQ below (xQtell V D ad s.heap.size j a w (rd w 40 0 1)) ((([xr 1 0, xr 40 0] : List AV).map (cv ad)).toArray) s 80 (6 * 80) (wA V ad s.heap.size)) V D ad (wA V ad s.heap.size) 4 0 (lent 0 [xr 1 0, xr 40 0]) [] (mix a w) o := by
    refine wpk hC ⟨by decide, by decide⟩ tkL_tell [] 200 ?_
    refine Wx.newN hC hn hb0 (by decide +kernel) ⟨by decide, by decide⟩ (fun q hq hfr => ?_) (lent_ok [xr 1 0, xr 40 0] 0 hok) (fun v h => by cases h)
    have hC2 := hC.add hn j0 j1 hfr hq
    refine wpk hC2 ⟨by decide, by decide⟩ tkL_tell [7] 200 ?_
    refine tell_1 hC2 hN hT hst hI hn1 (fun f o hf => ?_) 12 0 (fun _ => 0) o rfl (fun z z0 z1 => ⟨fun h => absurd h (by omega), fun _ => rfl⟩)
    refine wpk hC2 ⟨by decide, by decide⟩ tkL_tell [52] 200 ?_
    refine tell_2 hC2 hN hT hst (fun f o hf => ?_) 4 0 f o rfl (DN_eq hf (fun y _ _ h => Or.inl (by omega)) (fun y _ _ h => Or.inl (by omega)))
    refine wpk hC2 ⟨by decide, by decide⟩ tkL_tell [89] 200 ?_
    refine tell_3 hC2 hN hT hst (fun f o hf => ?_) 3 0 f o rfl (DN_eq hf (fun y _ _ h => Or.inl (by omega)) (fun y _ _ h => Or.inl (by omega)))
    refine tell_4 hC2 hN (fun f o hf => ?_) f o hf
    intro H locs ls hW' hS' hl' hL' hv'
    have hd : decode cL_tell 182 = .ok (.areturn, 1) := by decide +kernel
    refine w_widen (k := 80) (n := 6 * 80) (by decide) (by decide) ?_
    exact W.aret hx hb hr (Or.inr ⟨_, rfl⟩) (Or.inr ⟨_, rfl⟩) (fun t ht hWt => ⟨⟨q, f, o, by
      show Outcome.returned (some (Value.ref (adU ad j q 41 j))) = _
      rw [adU_new], hq, hfr, hf, by rw [ht]; exact hW'⟩, hS'.F ht⟩) hS'.2.2 hd
  have hl := lv_entry (([xr 1 0, xr 40 0] : List AV).map (cv ad)) (n := 4) (Nat.le_of_ble_eq_true rfl)
  rw [lg_entry_eq]
  rw [lent_args [xr 1 0, xr 40 0] 0 hok] at hl
  exact hbody s.heap [] _ hW va_S.rf hl (lent_ok [xr 1 0, xr 40 0] 0 hok) (fun v h => by cases h)
section CTX
variable {p : Program} {l : Launch} {e : Env} {R : Room} {s : State} {m : MethodId} {args : Array Value} {below : List Frame} {meth : Method} {c : Code} {cells slots : Nat} {Q : State → Prop} {V : Nat → Int → Prop} {D : DD} {ad : Nat → Int → Nat} {A : Nat → Prop} {nL : Nat} {own : String} {cc : ByteArray}
theorem Wx.tell {a w : Mm} {j : Int} {o : Int64} {rest : List AV} {pc : Nat} {L : List (Nat × AV)} (hC : Cx V own cc nL p R s m args meth c D ad A) (hN : wNest s) (hT : wThr A s) (hR : wNar s) (hst : l.stackTraces = false) (j0 : 0 ≤ j) (j1 : j < 2) (hI : IA a) (hn1 : rd w 40 0 1 ≤ rd a 5 0 7) (hn : ¬ V 41 j) (hb0 : ∀ k i, V k i → kt k = 0 → ad k i < s.heap.size) {C : CT} (hcode : C.all (cOK own cc) = true) {idx nx sl ty rc p1 p2 : Nat} {sj : Int} (hg : cget C pc = some (.invokestatic idx, nx, sl, sj, 0, ty, rc, p1, p2)) (hrc0 : Nat.beq rc 0 = false) (hrc : mNm.getD rc mNm0 = iL_tell.1) (hrm : iL_tell.2.2.2.2.2.1 + 1 ≤ R.frames ∧ 8 + (iL_tell.2.2.1 + 11) + iL_tell.2.2.2.2.2.2 ≤ R.locals)
    (hrest : rest.length ≤ 4) (hf : cells + 80 ≤ R.cells ∧ slots + 6 * 80 ≤ R.slots)
    (kk : ∀ (q : Nat) (f : Int → Int) (o' : Int64), s.heap.size ≤ q → (∀ k i, V k i → ad k i < q) → DN (GT a (rd w 40 0 1)) f (fun _ => True) → Wx p l e R s m args below meth c (cells + 80) (slots + 6 * 80) Q (vU V j) D (adU ad j q) A nL (pc + 3) L (xr 41 j :: rest) (mix a (fill w j f)) o') : Wx p l e R s m args below meth c cells slots Q V D ad A nL pc L (xr 40 0 :: xr 1 0 :: rest) (mix a w) o := by
  intro H locs ls hW hS hl hL hv
  obtain ⟨hd, hw⟩ := link_ofS hcode hg hrc0
  rw [hrc] at hw
  have hts := hC.2.2.2.2.1
  obtain ⟨⟨hyc, hyi, hyn⟩, hyS⟩ := kL_tell
  have hV40 : V 40 0 := hv (xr 40 0) List.mem_cons_self
  have hV1 : V 1 0 := hv (xr 1 0) (List.mem_cons_of_mem _ List.mem_cons_self)
  have hvr : ∀ v ∈ rest, okv V v := fun v hv' => hv v (List.mem_cons_of_mem _ (List.mem_cons_of_mem _ hv'))
  have cw : CallB R s args own idx iL_tell.1 iL_tell.2.1 iL_tell.2.2.1 iL_tell.2.2.2.1 (mws iL_tell) (mrmT iL_tell 80) 80 (6 * 80) 2 ∧ (Cond.static iL_tell.1).before args s = true :=
    ⟨callB_of 2 hts (mws_good iL_tell hyc) rfl rfl rfl (hts _ hyi) (hts _ (uw p1 hw.1 hw.2)) hyn hrm, hts _ hyS⟩
  have hK := hC.2.2.2.2.2.1
  have hr := va_runS (As := ([xr 1 0, xr 40 0] : List AV).map (cv ad)) (rest := rest.map (cv ad)) (l := l) (e := e) (below := below) (meth := meth) (locs := locs) (cells := cells) (slots := slots) (g := F0 m pc ls ((xr 40 0 :: xr 1 0 :: rest).map (cv ad))) ⟨hC.1, hC.2.1, hC.2.2.1, hC.2.2.2.1, hts⟩ (M_tell o j0 j1 hI hn1 l V D ad H.size hst hC.wf hV1 hV40 hn (fun k i hV hk => Nat.lt_of_lt_of_le (hb0 k i hV hk) hS.1)) cw ⟨xPW_blind, fun U hU hWm => ⟨rfl, ⟨by rw [hU], by rw [hU]; exact hW, va_K.moved hWm.alike hK, wNest_warm hWm hN⟩, hT.call hS hWm hU (wA_sub hC hS (fun _ _ h => h)), wNar_warm hWm hR⟩⟩ rfl rfl hl.1 rfl (lv_room (cat_le hrest)) hd hf
  intro T hT9 X
  obtain ⟨v, st₀, t, T', L', h0, X', hL', e1, e2, ⟨⟨q, f, o', hvr9, hq, hfr, hF, hW'⟩, hz, hk⟩, stp⟩ := hr T hT9 X
  cases hvr9
  rw [h0] at hz hk
  have hA : ∀ q, wA V ad H.size q → A q := wA_sub hC hS (fun _ _ h => h)
  have hS' : va_S A s.heap T'.heap (locs ++ L') := ⟨Nat.le_trans hS.1 (by rw [e1]; exact hz), fun q h1 h2 => by rw [e1, hk q (Nat.lt_of_lt_of_le h1 hS.1) (fun z => h2 (hA q z))]; exact hS.2.1 q h1 h2, fun q hq => by
      rcases List.mem_append.mp hq with h | h
      · exact hS.2.2 q h
      · exact hA _ (hL' q h)⟩
  have e0 : ∀ k i, V k i → adU ad j q k i = ad k i := fun k i hV => adU_old hn hV
  obtain ⟨t2, a1, b1⟩ := kk q f o' (Nat.le_trans hS.1 hq) hfr hF T'.heap (locs ++ L') ls (by rw [e1]; exact hW') hS' (by
    rw [show L.map (fun x => (x.1, cv (adU ad j q) x.2)) = L.map (fun x => (x.1, cv ad x.2)) from List.map_congr_left fun x hx => by rw [cv_old e0 (okl_okv (hL x hx))]]
    exact hl) (fun x hx => by
      have h := hL x hx
      rcases x with ⟨n, v⟩
      rcases v with z | z | r
      · trivial
      · exact h
      · exact Or.inl h) (fun v hv' => by
      rcases List.mem_cons.mp hv' with rfl | hv'
      · exact Or.inr ⟨rfl, rfl⟩
      · have h := hvr v hv'
        rcases v with z | z | r
        · trivial
        · trivial
        · exact Or.inl h) T' rfl X'
  refine ⟨t2, stp t2 ?_, b1⟩
  rw [show (xr 41 j :: rest).map (cv (adU ad j q)) = .ref q :: rest.map (cv ad) by
    show Value.ref (adU ad j q 41 j) :: _ = _
    rw [adU_new]
    exact congrArg _ (List.map_congr_left fun v hq => cv_old e0 (hvr v hq))] at a1
  exact a1
end CTX
set_option maxRecDepth 100000 in
set_option maxHeartbeats 400000 in
theorem M_same (mm : Mm) (o : Int64) (h : ∀ z, 0 ≤ z → z < 40 → rd mm 41 0 z = rd mm 41 1 z) : MetN iL_same 0 [xr 41 0, xr 41 1] mm o (fun r m' _ => r = some (xi 1) ∧ m' = mm) := by
  refine MetN.of 2 (by decide +kernel) rfl (Or.inr rfl) (Nat.le_of_ble_eq_true rfl) ⟨by decide, by decide⟩ ?_
  intro p l e s m args below meth c Q V D ad hC hN hT hR hst hok hF
  refine wpk hC ⟨by decide, by decide⟩ tkL_same [2] 200 ?_
  have loop : ∀ (n i : Nat), i + n = 40 → Wx p l e (mrmT iL_same 0) s m args below meth c 0 0 Q V D ad (wA V ad s.heap.size) 3 2 [(0, xr 41 0), (1, xr 41 1), (2, xi i)] [] mm o := by
    intro n
    induction n with
    | zero =>
      intro i hi
      refine wpn hC ⟨by decide, by decide⟩ tkL_same hF [2] 200 ?_
      refine ⟨fun _ => ⟨Or.inr rfl, rfl, rfl⟩, fun q => ?_⟩
      rw [wr_of (by omega) (by omega), wr_of (by omega) (by omega)] at q
      omega
    | succ n ih =>
      intro i hi
      refine wpn hC ⟨by decide, by decide⟩ tkL_same hF [2] 200 ?_
      refine ⟨fun q => ?_, fun q => ?_⟩
      · rw [wr_of (by omega) (by omega), wr_of (by omega) (by omega)] at q
        omega
      have i0 : (0 : Int) ≤ (i : Int) := by omega
      have i1 : (i : Int) < (40 : Nat) := by omega
      refine ⟨⟨i0, i1⟩, ⟨i0, i1⟩, fun _ => ih (i + 1) (by omega), fun q2 => ?_⟩
      rw [wr_rd, wr_rd] at q2
      exact absurd (h i i0 i1) q2
  exact loop 40 0 rfl
