/-! ===== the script ===== -/
def scr (xs : Nat → Int32) (j : Int) : Int := (xs j.toNat).toInt
def cellZ (N : Nat) (xs : Nat → Int32) (k : Int) : Int := if k < (N : Int) then scr xs k else 2752763 * k + 2411
def xPC (V : Nat → Int → Prop) (D : DD) (ad : Nat → Int → Nat) (N : Nat) (xs : Nat → Int32) (k : Int) (mm : Mm) (o : Int64) (sz : Nat) : Array Value → State → Prop := va_Pc (([xr 0 0, xi k] : List AV).map (cv ad)) (fun U => xB V D ad mm o sz U ∧ va_X (ad 0 0) N xs U U.heap ∧ ad 0 0 < sz)
theorem xPC_blind {V : Nat → Int → Prop} {D : DD} {ad : Nat → Int → Nat} {N : Nat} {xs : Nat → Int32} {k : Int} {mm : Mm} {o : Int64} {sz : Nat} : FrameBlind (xPC V D ad N xs k mm o sz) := by
  intro a U g mk h
  obtain ⟨h0, ⟨h1, h2, h3, h4⟩, hX, hb⟩ := h
  exact ⟨h0, ⟨h1, h2, va_K.moved (u := U) (U := U.calling g mk a) (Vm.Alike.refl U.vm) h3, h4.1.same rfl rfl, h4.2.same rfl rfl⟩, va_X.moved (u := U) (U := U.calling g mk a) (Vm.Alike.refl U.vm) hX, hb⟩
section CTX
variable {p : Program} {l : Launch} {e : Env} {R : Room} {s : State} {m : MethodId} {args : Array Value} {below : List Frame} {meth : Method} {c : Code} {cells slots : Nat} {Q : State → Prop} {V : Nat → Int → Prop} {D : DD} {ad : Nat → Int → Nat} {A : Nat → Prop} {nL : Nat} {own : String} {cc : ByteArray}
theorem Wx.sld {N : Nat} {xs : Nat → Int32} {pc : Nat} {z : Int} {L : List (Nat × AV)} {S : List AV} {mm : Mm} {o : Int64} (hC : Cx V own cc nL p R s m args meth c D ad A) (hX : va_X (ad 0 0) N xs s s.heap) (hb0 : ad 0 0 < s.heap.size ∧ ¬ A (ad 0 0)) (hN : N ≤ 5120) (hd : decode cc pc = .ok (.iaload, 1)) (h0 : 0 ≤ z) (h1 : z < N) (kk : Wx p l e R s m args below meth c cells slots Q V D ad A nL (pc + 1) L (xi (scr xs z) :: S) mm o) : Wx p l e R s m args below meth c cells slots Q V D ad A nL pc L (xi z :: xr 0 0 :: S) mm o := by
  intro H locs ls hW hS hl hL hv
  have h9 := I_cl (z := z) (n := N) h0 h1 (by omega)
  refine va_sld (i := I z) hC.1 hC.2.1 hX hb0.1 hb0.2 hS (I_in h0 h1 (by omega)) hd ?_
  have := kk H locs ls hW hS hl hL (fun v hv' => by
    rcases List.mem_cons.mp hv' with rfl | h
    · trivial
    · exact hv v (List.mem_cons_of_mem _ (List.mem_cons_of_mem _ h)))
  rw [show (xi (scr xs z) :: S).map (cv ad) = .int (xs (I z).toNatClampNeg) :: S.map (cv ad) by
    show Value.int (I (scr xs z)) :: _ = _
    unfold scr
    rw [I_toInt, show z.toNat = (I z).toNatClampNeg by omega]] at this
  exact this
theorem Wx.slen {N : Nat} {xs : Nat → Int32} {pc : Nat} {L : List (Nat × AV)} {S : List AV} {mm : Mm} {o : Int64} (hC : Cx V own cc nL p R s m args meth c D ad A) (hX : va_X (ad 0 0) N xs s s.heap) (hb0 : ad 0 0 < s.heap.size ∧ ¬ A (ad 0 0)) (hd : decode cc pc = .ok (.arraylength, 1)) (kk : Wx p l e R s m args below meth c cells slots Q V D ad A nL (pc + 1) L (xi (N : Int) :: S) mm o) : Wx p l e R s m args below meth c cells slots Q V D ad A nL pc L (xr 0 0 :: S) mm o := by
  intro H locs ls hW hS hl hL hv
  exact va_slen hC.1 hC.2.1 hX hb0.1 hb0.2 hS hd (kk H locs ls hW hS hl hL (fun v hv' => by
    rcases List.mem_cons.mp hv' with rfl | h
    · trivial
    · exact hv v (List.mem_cons_of_mem _ h)))
end CTX
set_option maxRecDepth 100000 in
set_option maxHeartbeats 400000 in
theorem M_cell (N : Nat) (xs : Nat → Int32) (hN : N ≤ 5120) (k : Int) (k0 : 0 ≤ k) (k1 : k < 1000) (mm : Mm) (o : Int64) (l : Launch) (V : Nat → Int → Prop) (D : DD) (ad : Nat → Int → Nat) (sz : Nat) (hWF : WF V ad) (hV0 : V 0 0) : Met l iL_cell.1 (mws iL_cell) (mrm iL_cell) (xPC V D ad N xs k mm o sz) (xQ V D ad (rto (xi (cellZ N xs k)) mm o) sz) 0 0 (wA V ad sz) := by
  refine Met.ofW (cc := cL_cell) (maxL := 2) (ret := some .int) (by decide +kernel) rfl ?_
  intro p e s m args below meth c s₁ B hml hv
  obtain ⟨rfl, ⟨hsz, hW, hK, hN9⟩, hX, hb0⟩ := hv
  have hx := B.exec
  have hb := B.bytes
  have hr := B.returns
  have hts := atoms_spec (ws := mws iL_cell) B.pre
  have hown : s.vm.findClass RL = some m.cls := findClass_of_methodNamed B.named
  have hlocks := B.notSynchronized
  subst hsz
  have hok : ∀ v ∈ ([xr 0 0, xi k] : List AV), okl V v := by
    intro v hv
    simp only [List.mem_cons, List.not_mem_nil, or_false] at hv
    rcases hv with rfl | rfl
    · exact hV0
    · trivial
  have hC : Cx V RL cL_cell 2 p (mrm iL_cell) s m ((([xr 0 0, xi k] : List AV).map (cv ad)).toArray) meth c D ad (wA V ad s.heap.size) :=
    ⟨hx, hb, hml, hown, fun w hw => hts w (List.mem_cons_of_mem _ hw), hK, fun k i h hk => Or.inl ⟨k, i, h, hk, rfl⟩, fun q h => Or.inr h, hWF.1, hWF.2, hlocks, by decide, by decide⟩
  have hbA : ad 0 0 < s.heap.size ∧ ¬ wA V ad s.heap.size (ad 0 0) := ⟨hb0, fun h => by
    rcases h with ⟨k', i', h1, h2, h3⟩ | h
    · obtain ⟨rfl, -⟩ := hWF.1 _ _ _ _ hV0 h1 h3
      exact h2 rfl
    · omega⟩
  have hF : ∀ r mm' o', rto (xi (cellZ N xs k)) mm o r mm' o' → rOK p l e (mrm iL_cell) s m ((([xr 0 0, xi k] : List AV).map (cv ad)).toArray) below meth c 0 0 (MQ below (xQ V D ad (rto (xi (cellZ N xs k)) mm o) s.heap.size) ((([xr 0 0, xi k] : List AV).map (cv ad)).toArray) s 0 0 (wA V ad s.heap.size)) V D ad (wA V ad s.heap.size) cL_cell 1 r mm' o' := by
    intro r mm' o' hF H locs pc ls hW' hS' hv'
    refine ⟨fun h0 _ _ => absurd h0 (by decide), fun z hz hr0 hd => ?_, fun q h3 _ _ => absurd h3 (by decide)⟩
    subst hr0
    have hret : meth.sig.returnType = some .int := hr
    exact W.iret hx hb hret (fun t ht hWt => ⟨⟨some (xi z), mm', o', rfl, hv', hF, by rw [ht]; exact hW'⟩, hS'.F ht⟩) hS'.2.2 hd
  have hbody : Wx p l e (mrm iL_cell) s m ((([xr 0 0, xi k] : List AV).map (cv ad)).toArray) below meth c 0 0 (MQ below (xQ V D ad (rto (xi (cellZ N xs k)) mm o) s.heap.size) ((([xr 0 0, xi k] : List AV).map (cv ad)).toArray) s 0 0 (wA V ad s.heap.size)) V D ad (wA V ad s.heap.size) 2 0 (lent 0 [xr 0 0, xi k]) [] mm o := by
    refine wpn hC ⟨by decide, by decide⟩ tkL_cell hF [] 200 ?_
    refine Wx.slen hC hX hbA (by decide +kernel) ?_
    refine wpn hC ⟨by decide, by decide⟩ tkL_cell hF [8] 200 ?_
    refine ⟨fun q => ?_, fun q => ?_⟩
    · rw [wr_of (by omega) (by omega), wr_of (by omega) (by omega)] at q
      refine Wx.ldc (v := 2752763) hC ct7 (by decide +kernel) ?_
      refine wpn hC ⟨by decide, by decide⟩ tkL_cell hF [] 200 ?_
      refine ⟨?_, rfl, rfl⟩
      unfold cellZ
      rw [if_neg (by omega)]
    · rw [wr_of (by omega) (by omega), wr_of (by omega) (by omega)] at q
      refine Wx.sld hC hX hbA hN (by decide +kernel) k0 (by omega) ?_
      refine wpn hC ⟨by decide, by decide⟩ tkL_cell hF [] 200 ?_
      refine ⟨?_, rfl, rfl⟩
      unfold cellZ
      rw [if_pos (by omega)]
  have hl := lv_entry (([xr 0 0, xi k] : List AV).map (cv ad)) (n := 2) (Nat.le_of_ble_eq_true rfl)
  rw [lg_entry_eq]
  rw [lent_args [xr 0 0, xi k] 0 hok] at hl
  exact hbody s.heap [] _ hW va_S.rf hl (lent_ok [xr 0 0, xi k] 0 hok) (fun v h => by cases h)
section CTX
variable {p : Program} {l : Launch} {e : Env} {R : Room} {s : State} {m : MethodId} {args : Array Value} {below : List Frame} {meth : Method} {c : Code} {cells slots : Nat} {Q : State → Prop} {V : Nat → Int → Prop} {D : DD} {ad : Nat → Int → Nat} {A : Nat → Prop} {nL : Nat} {own : String} {cc : ByteArray}
theorem Wx.cell {N : Nat} {xs : Nat → Int32} {k : Int} {rest : List AV} {mm : Mm} {o : Int64} {pc : Nat} {L : List (Nat × AV)} (hC : Cx V own cc nL p R s m args meth c D ad A) (hN : wNest s) (hX : va_X (ad 0 0) N xs s s.heap) (hb0 : ad 0 0 < s.heap.size ∧ ¬ A (ad 0 0)) (hV0 : V 0 0) (hN9 : N ≤ 5120) {C : CT} (hcode : C.all (cOK own cc) = true) {idx nx sl ty rc p1 p2 : Nat} {sj : Int} (hg : cget C pc = some (.invokestatic idx, nx, sl, sj, 0, ty, rc, p1, p2)) (hrc0 : Nat.beq rc 0 = false) (hrc : mNm.getD rc mNm0 = iL_cell.1) (hrm : iL_cell.2.2.2.2.2.1 + 1 ≤ R.frames ∧ 8 + (iL_cell.2.2.1 + 11) + iL_cell.2.2.2.2.2.2 ≤ R.locals)
    (k0 : 0 ≤ k) (k1 : k < 1000) (hrest : rest.length ≤ 4) (hf : cells ≤ R.cells ∧ slots ≤ R.slots)
    (kk : Wx p l e R s m args below meth c cells slots Q V D ad A nL (pc + 3) L (xi (cellZ N xs k) :: rest) mm o) : Wx p l e R s m args below meth c cells slots Q V D ad A nL pc L (xi k :: xr 0 0 :: rest) mm o := by
  intro H locs ls hW hS hl hL hv
  obtain ⟨hd, hw⟩ := link_ofS hcode hg hrc0
  rw [hrc] at hw
  have hts := hC.2.2.2.2.1
  obtain ⟨⟨hyc, hyi, hyn⟩, hyS⟩ := kL_cell
  have cw : CallB R s args own idx iL_cell.1 iL_cell.2.1 iL_cell.2.2.1 iL_cell.2.2.2.1 (mws iL_cell) (mrm iL_cell) 0 0 2 ∧ (Cond.static iL_cell.1).before args s = true :=
    ⟨callB_of 2 hts (mws_good iL_cell hyc) rfl rfl rfl (hts _ hyi) (hts _ (uw p1 hw.1 hw.2)) hyn hrm, hts _ hyS⟩
  have hWF : WF V ad := ⟨hC.2.2.2.2.2.2.2.2.1, hC.2.2.2.2.2.2.2.2.2.1⟩
  have hK := hC.2.2.2.2.2.1
  refine Wx.afterG (F := rto (xi (cellZ N xs k)) mm o) hC hS hl hL (fun v hv' => hv v (List.mem_cons_of_mem _ (List.mem_cons_of_mem _ hv'))) (va_runS (As := ([xr 0 0, xi k] : List AV).map (cv ad)) (rest := rest.map (cv ad)) ⟨hC.1, hC.2.1, hC.2.2.1, hC.2.2.2.1, hts⟩ (M_cell N xs hN9 k k0 k1 mm o l V D ad H.size hWF hV0) cw ⟨xPC_blind, fun U hU hWm => ⟨rfl, ⟨by rw [hU], by rw [hU]; exact hW, va_K.moved hWm.alike hK, wNest_warm hWm hN⟩, ?_, Nat.lt_of_lt_of_le hb0.1 hS.1⟩⟩ rfl rfl hl.1 rfl (lv_room (cat_le hrest)) hd hf) ?_
  · rw [hU]
    exact va_X.moved hWm.alike (hX.kept (hS.2.1 _ hb0.1 hb0.2))
  · rintro r mm' o' ⟨rfl, rfl, rfl⟩
    exact kk
end CTX
