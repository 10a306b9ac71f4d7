/-! ===== aimAt; target, alert ===== -/
section CTX
variable {p : Program} {l : Launch} {e : Env} {R : Room} {s : State} {m : MethodId} {args : Array Value} {below : List Frame} {meth : Method} {c : Code} {cells slots : Nat} {Q : State → Prop} {V : Nat → Int → Prop} {D : DD} {ad : Nat → Int → Nat} {A : Nat → Prop} {nL : Nat} {own : String} {cc : ByteArray}
/-- a call by the name of a heir -/
theorem Wx.gcallU {y : MI} {x : MethodName} {Cn : String} {n : Nat} {k : Nat} {i : Int} {avs rest : List AV} {mm : Mm} {o : Int64} {F : FT} {pc : Nat} {L : List (Nat × AV)} (hC : Cx V own cc nL p R s m args meth c D ad A) (hN : wNest s) (hcs : cells ≤ R.cells ∧ slots ≤ R.slots) {C : CT} (hcode : C.all (cOK own cc) = true) {idx nx sl dc ty rc p1 p2 : Nat} {sj : Int} (hg : cget C pc = some (.invokevirtual idx, nx, sl, sj, dc, ty, rc, p1, p2)) (hws : ∀ w ∈ va_wsU own idx Cn y.1.cls x y.1 (mws y), w ∈ UW) (hyx : y.1 = ⟨y.1.cls, x.name, x.desc⟩)
    (hd9 : y.1.cls ≠ "java/lang/invoke/MethodHandle" ∧ y.1.cls ≠ "java/lang/invoke/VarHandle" ∧ (parseMethodDescriptor x.desc).map (fun d => d.parameters.length) = some n) (hrm : y.2.2.2.2.2.1 + 1 ≤ R.frames ∧ 8 + (y.2.2.1 + 11) + y.2.2.2.2.2.2 ≤ R.locals)
    (hM : MetX y (xr k i :: avs) mm o F) (hk : kt k = 1 ∧ cNm.getD (kc k) "" = Cn) (hn : avs.length = n) (hrest : rest.length ≤ 4) (hav : ∀ v ∈ avs, okv V v → okl V v)
    (kk : ∀ r mm' o', F r mm' o' → Wx p l e R s m args below meth c cells slots Q V D ad A nL (pc + 3) L (r.toList ++ rest) mm' o') : Wx p l e R s m args below meth c cells slots Q V D ad A nL pc L (avs.reverse ++ xr k i :: rest) mm o := by
  intro H locs ls hW hS hl hL hv
  have he := List.all_eq_true.mp hcode _ (cget_mem hg)
  obtain ⟨hd, hnx⟩ := cOK_spec he 3 rfl (by decide)
  have hts := hC.2.2.2.2.1
  have hVki : V k i := hv (xr k i) (List.mem_append_right _ List.mem_cons_self)
  have cw : va_CU R s args own Cn y.1.cls idx x y.1 y.2.1 y.2.2.1 y.2.2.2.1 (mws y) (mrm y) 0 0 n :=
    va_cwU n hts (uw_good hws) rfl rfl rfl hyx hd9 hrm
  have hWF : WF V ad := ⟨hC.2.2.2.2.2.2.2.2.1, hC.2.2.2.2.2.2.2.2.2.1⟩
  have hokA : ∀ v ∈ avs, okv V v := fun v hv' => hv v (List.mem_append_left _ (List.mem_reverse.mpr hv'))
  have hok : ∀ v ∈ xr k i :: avs, okl V v := fun v hv' => by
    rcases List.mem_cons.mp hv' with rfl | h
    · exact hVki
    · exact hav v h (hokA v h)
  have hK := hC.2.2.2.2.2.1
  have hrec : ∃ cellB : Cell, H[ad k i]? = some cellB ∧ cellB.vm.isStatics = false ∧ s.vm.findClass Cn = some cellB.cls := by
    obtain ⟨C1, T1, hc1, -, hKn⟩ := cx_xc hC hk.1
    obtain ⟨cell, q1, q2, q3, -⟩ := cell1 (hW k i hVki) hk.1
    refine ⟨cell, q1, by rw [q3]; rfl, ?_⟩
    rw [q2, ← hk.2]
    have : cNm.getD (kc k) "" = C1 := by
      have h11 := kc_tab k (kt_lt hk.1 (by decide)) hk.1
      have hh : ∀ j, j < 11 → (xCl[j]?.map fun q => q.1) = some (cNm.getD j "") := by decide +kernel
      have h12 := hh _ h11
      rw [hc1] at h12
      exact (Option.some.inj h12).symm
    rw [this]
    exact hKn.2.1
  rw [show (avs.reverse ++ xr k i :: rest).map (cv ad) = (avs.map (cv ad)).reverse ++ .ref (ad k i) :: rest.map (cv ad) by rw [List.map_append, List.map_reverse]; rfl]
  refine Wx.after hC hS hl hL (fun v hv' => hv v (List.mem_append_right _ (List.mem_cons_of_mem _ hv'))) (va_runU (As := avs.map (cv ad)) (rest := rest.map (cv ad)) ⟨hC.1, hC.2.1, hC.2.2.1, hC.2.2.2.1, hts⟩ (hM l V D ad H.size hWF hok) cw ⟨xB_blind, hrec, fun U hU hWm => ⟨rfl, by rw [hU], by rw [hU]; exact hW, va_K.moved hWm.alike hK, wNest_warm hWm hN⟩⟩ rfl (by rw [List.length_map]; exact hn) hl.1 rfl (lv_room (cat_le hrest)) hd hcs) kk
end CTX
def aimC (mm : Mm) (k : Nat) (i a b c9 d : Int) : Mm := st (st (st (st mm k i 1 (wr a)) k i 2 (wr b)) k i 3 (wr c9)) k i 4 (wr d)
set_option maxRecDepth 100000 in
set_option maxHeartbeats 400000 in
theorem M_aimAt_18 (i a b c9 d9 : Int) (mm : Mm) (o : Int64)  : MetX iX0_aimAt [xr 18 i, xi a, xi b, xi c9, xi d9] mm o (rtv (aimC mm 18 i a b c9 d9) o) := by
  refine MetX.of 0 (by decide +kernel) rfl (Nat.le_of_ble_eq_true rfl) ⟨by decide, by decide⟩ ?_
  intro p l e s m args below meth c Q V D ad A hC hN hok hF
  refine wpx hC tkX0_aimAt hF [] 200 ?_
  exact ⟨rfl, rfl, rfl⟩
set_option maxRecDepth 100000 in
set_option maxHeartbeats 400000 in
theorem M_aimAt_19 (i a b c9 d9 : Int) (mm : Mm) (o : Int64)  : MetX iX0_aimAt [xr 19 i, xi a, xi b, xi c9, xi d9] mm o (rtv (aimC mm 19 i a b c9 d9) o) := by
  refine MetX.of 0 (by decide +kernel) rfl (Nat.le_of_ble_eq_true rfl) ⟨by decide, by decide⟩ ?_
  intro p l e s m args below meth c Q V D ad A hC hN hok hF
  refine wpx hC tkX0_aimAt hF [] 200 ?_
  exact ⟨rfl, rfl, rfl⟩
theorem aim_ws {idx p1 p2 p3 : Nat} {Cn : String} (h1 : lw_tbl[p1]? = some (.methodLink RX10 idx ⟨Cn, "aimAt", "(IIII)V"⟩)) (h2 : lw_tbl[p2]? = some (.sameMethod Cn RX0 "aimAt" "(IIII)V")) (h3 : lw_tbl[p3]? = some (.selects Cn ⟨Cn, "aimAt", "(IIII)V"⟩ yX0_aimAt)) (h4 : lw_tbl[688]? = some (.instanceMethod yX0_aimAt)) (h5 : lw_tbl[689]? = some (.code yX0_aimAt cX0_aimAt 5 none)) {pi : Nat} (h6 : lw_tbl[pi]? = some (.initialized RX0)) : ∀ w ∈ va_wsU RX10 idx Cn iX0_aimAt.1.cls ⟨Cn, "aimAt", "(IIII)V"⟩ iX0_aimAt.1 (mws iX0_aimAt), w ∈ UW := by
  intro w hw
  rcases List.mem_append.mp hw with h | h
  · simp only [List.mem_cons, List.not_mem_nil, or_false] at h
    rcases h with rfl | rfl | rfl | rfl | rfl
    · exact uw _ h1 rfl
    · exact uw _ h2 rfl
    · exact uw _ h3 rfl
    · exact uw _ h4 rfl
    · exact uw _ h6 rfl
  · rcases List.mem_cons.mp h with rfl | h
    · exact uw _ h5 rfl
    · exact h
theorem aim_ws18 : ∀ w ∈ va_wsU RX10 141 RX8 iX0_aimAt.1.cls ⟨RX8, "aimAt", "(IIII)V"⟩ iX0_aimAt.1 (mws iX0_aimAt), w ∈ UW := aim_ws (p1 := 684) (p2 := 685) (p3 := 687) (pi := 7) (by decide +kernel) (by decide +kernel) (by decide +kernel) (by decide +kernel) (by decide +kernel) (by decide +kernel)
theorem aim_ws19 : ∀ w ∈ va_wsU RX10 186 RX1 iX0_aimAt.1.cls ⟨RX1, "aimAt", "(IIII)V"⟩ iX0_aimAt.1 (mws iX0_aimAt), w ∈ UW := aim_ws (p1 := 708) (p2 := 709) (p3 := 710) (pi := 7) (by decide +kernel) (by decide +kernel) (by decide +kernel) (by decide +kernel) (by decide +kernel) (by decide +kernel)
def tg1 (mm : Mm) (a b c9 d e9 : Int) : Mm := st (st (aimC (st mm 5 0 7 (wr (rd mm 5 0 7 + 1))) 18 (rd mm 5 0 7) b c9 d e9) 18 (rd mm 5 0 7) 9 (wr (rd mm 5 0 7))) 18 (rd mm 5 0 7) 10 (wr a)
def tg2 (mm m : Mm) (a : Int) : Mm := st m 18 (rd mm 5 0 7) 0 (wr (rd m 17 a 0))
def tg3 (mm m : Mm) (a : Int) : Mm := st m 18 (rd mm 5 0 7) 8 (wr (rd m 17 a 2))
def tgC (mm : Mm) (a b c9 d e9 f g h v : Int) : Mm := st (st (st (st (tg3 mm (tg2 mm (tg1 mm a b c9 d e9) a) a) 18 (rd mm 5 0 7) 5 (wr f)) 18 (rd mm 5 0 7) 6 (wr g)) 18 (rd mm 5 0 7) 7 (wr h)) 18 (rd mm 5 0 7) 11 (wr v)
set_option maxRecDepth 100000 in
set_option maxHeartbeats 400000 in
theorem M_target (mm : Mm) (o : Int64) (a b c0 d0 e0 f0 g0 h0 v0 : Int) (ha : wr a = a) (hb : wr b = b) (hc : wr c0 = c0) (hd : wr d0 = d0) (he : wr e0 = e0) (hf : wr f0 = f0) (hg : wr g0 = g0) (hh : wr h0 = h0) (hv : wr v0 = v0) (hI : IA mm) : MetT iX10_target 10 [xr 1 0, xi a, xi b, xi c0, xi d0, xi e0, xi f0, xi g0, xi h0, xi v0] mm o (tF (ck (ixC a (rd mm 5 0 6)) (ck (ixC e0 3) (ck (ck (rgC b 0 359) (rgC c0 (-90) 90)) (ck (rgC d0 1 6) (ck (rgC f0 0 90) (ck (rgC g0 0 100) (ck (rgC h0 1 50) (ck (rgC v0 1 10) (stC (bz (rd mm 5 0 7 < 24))))))))))) (rto (xi (rd mm 5 0 7)) (tgC mm a b c0 d0 e0 f0 g0 h0 v0) o)) (tG (ck (ixC a (rd mm 5 0 6)) (ck (ixC e0 3) (ck (ck (rgC b 0 359) (rgC c0 (-90) 90)) (ck (rgC d0 1 6) (ck (rgC f0 0 90) (ck (rgC g0 0 100) (ck (rgC h0 1 50) (ck (rgC v0 1 10) (stC (bz (rd mm 5 0 7 < 24))))))))))) mm o) := by
  refine MetT.of 1 (by decide +kernel) rfl (Nat.le_of_ble_eq_true rfl) ⟨by decide, by decide⟩ ?_
  intro p l e s m args below meth c V D ad hC hN hT hst hex hok hF
  have hp1 := hI.2.2.2.1.2
  have ht0 := hI.2.2.2.2.1.1
  refine wpt0 hC tkX10_target hF [] 200 ?_
  refine Wx.tcallS (x := iX10_target) (y := iX10_needIndex) (j := 0) (k' := 1) (avs := [_, _]) (rest := []) hC hN hT hst hex tkX10_target rfl rfl rfl kX10_needIndex rfl (M_needIndex _ _ _ _ ha (wr_rd _ _ _ _)) rfl (Nat.le_of_ble_eq_true rfl) (by exact nol rfl) (by decide) ?_ ?_
  · rintro E mm' o' ⟨q, rfl, rfl⟩
    exact ⟨ck_l q, rfl, rfl⟩
  rintro r mm' o' ⟨c1, rfl, rfl, rfl⟩
  refine wpt (n := 1) hC tkX10_target hF (by decide) [] 200 ?_
  refine Wx.tcallS (x := iX10_target) (y := iX10_needIndex) (j := 1) (k' := 1) (avs := [_, _]) (rest := []) hC hN hT hst hex tkX10_target rfl rfl rfl kX10_needIndex rfl (M_needIndex _ _ _ _ he rfl) rfl (Nat.le_of_ble_eq_true rfl) (by exact nol rfl) (by decide) ?_ ?_
  · rintro E mm' o' ⟨q, rfl, rfl⟩
    exact ⟨ck_r c1 (ck_l q), rfl, rfl⟩
  rintro r mm' o' ⟨c2, rfl, rfl, rfl⟩
  refine wpt (n := 2) hC tkX10_target hF (by decide) [] 200 ?_
  refine Wx.tcallS (x := iX10_target) (y := iX10_needSky) (j := 2) (k' := 2) (avs := [_, _]) (rest := []) hC hN hT hst hex tkX10_target rfl rfl rfl kX10_needSky rfl (M_needSky _ _ _ _ hb hc) rfl (Nat.le_of_ble_eq_true rfl) (by exact nol rfl) (by decide) ?_ ?_
  · rintro E mm' o' ⟨q, rfl, rfl⟩
    exact ⟨ck_r c1 (ck_r c2 (ck_l q)), rfl, rfl⟩
  rintro r mm' o' ⟨c3, rfl, rfl, rfl⟩
  refine wpt (n := 4) hC tkX10_target hF (by decide) [] 200 ?_
  refine Wx.tcallS (x := iX10_target) (y := iX10_needRange) (j := 4) (k' := 1) (avs := [_, _, _]) (rest := []) hC hN hT hst hex tkX10_target rfl rfl rfl kX10_needRange rfl (M_needRange _ _ _ _ _ hd rfl rfl) rfl (Nat.le_of_ble_eq_true rfl) (by exact nol rfl) (by decide) ?_ ?_
  · rintro E mm' o' ⟨q, rfl, rfl⟩
    exact ⟨ck_r c1 (ck_r c2 (ck_r c3 (ck_l q))), rfl, rfl⟩
  rintro r mm' o' ⟨c4, rfl, rfl, rfl⟩
  refine wpt (n := 5) hC tkX10_target hF (by decide) [] 200 ?_
  refine Wx.tcallS (x := iX10_target) (y := iX10_needRange) (j := 5) (k' := 1) (avs := [_, _, _]) (rest := []) hC hN hT hst hex tkX10_target rfl rfl rfl kX10_needRange rfl (M_needRange _ _ _ _ _ hf rfl rfl) rfl (Nat.le_of_ble_eq_true rfl) (by exact nol rfl) (by decide) ?_ ?_
  · rintro E mm' o' ⟨q, rfl, rfl⟩
    exact ⟨ck_r c1 (ck_r c2 (ck_r c3 (ck_r c4 (ck_l q)))), rfl, rfl⟩
  rintro r mm' o' ⟨c5, rfl, rfl, rfl⟩
  refine wpt (n := 6) hC tkX10_target hF (by decide) [] 200 ?_
  refine Wx.tcallS (x := iX10_target) (y := iX10_needRange) (j := 6) (k' := 1) (avs := [_, _, _]) (rest := []) hC hN hT hst hex tkX10_target rfl rfl rfl kX10_needRange rfl (M_needRange _ _ _ _ _ hg rfl rfl) rfl (Nat.le_of_ble_eq_true rfl) (by exact nol rfl) (by decide) ?_ ?_
  · rintro E mm' o' ⟨q, rfl, rfl⟩
    exact ⟨ck_r c1 (ck_r c2 (ck_r c3 (ck_r c4 (ck_r c5 (ck_l q))))), rfl, rfl⟩
  rintro r mm' o' ⟨c6, rfl, rfl, rfl⟩
  refine wpt (n := 7) hC tkX10_target hF (by decide) [] 200 ?_
  refine Wx.tcallS (x := iX10_target) (y := iX10_needRange) (j := 7) (k' := 1) (avs := [_, _, _]) (rest := []) hC hN hT hst hex tkX10_target rfl rfl rfl kX10_needRange rfl (M_needRange _ _ _ _ _ hh rfl rfl) rfl (Nat.le_of_ble_eq_true rfl) (by exact nol rfl) (by decide) ?_ ?_
  · rintro E mm' o' ⟨q, rfl, rfl⟩
    exact ⟨ck_r c1 (ck_r c2 (ck_r c3 (ck_r c4 (ck_r c5 (ck_r c6 (ck_l q)))))), rfl, rfl⟩
  rintro r mm' o' ⟨c7, rfl, rfl, rfl⟩
  refine wpt (n := 8) hC tkX10_target hF (by decide) [] 200 ?_
  refine Wx.tcallS (x := iX10_target) (y := iX10_needRange) (j := 8) (k' := 1) (avs := [_, _, _]) (rest := []) hC hN hT hst hex tkX10_target rfl rfl rfl kX10_needRange rfl (M_needRange _ _ _ _ _ hv rfl rfl) rfl (Nat.le_of_ble_eq_true rfl) (by exact nol rfl) (by decide) ?_ ?_
  · rintro E mm' o' ⟨q, rfl, rfl⟩
    exact ⟨ck_r c1 (ck_r c2 (ck_r c3 (ck_r c4 (ck_r c5 (ck_r c6 (ck_r c7 (ck_l q))))))), rfl, rfl⟩
  rintro r mm' o' ⟨c8, rfl, rfl, rfl⟩
  refine wpt (n := 9) hC tkX10_target hF (by decide) [] 200 ?_
  obtain ⟨a0, a1⟩ := ix_of c1
  refine ⟨fun q => ?_, fun q => ?_⟩
  · refine Wx.tcallS (x := iX10_target) (y := iX10_needState) (j := 9) (k' := 1) (avs := [_]) (rest := []) hC hN hT hst hex tkX10_target rfl rfl rfl kX10_needState rfl (M_needState _ _ 0 rfl) rfl (Nat.le_of_ble_eq_true rfl) (by exact nol rfl) (by decide) ?_ ?_
    · rintro E mm' o' ⟨q2, rfl, rfl⟩
      exact ⟨ck_r c1 (ck_r c2 (ck_r c3 (ck_r c4 (ck_r c5 (ck_r c6 (ck_r c7 (ck_r c8 ((congrArg stC (bz_f (by rw [wr_rd, show wr 24 = 24 from rfl] at q; omega))).trans q2)))))))), rfl, rfl⟩
    · rintro r mm' o' ⟨q2, -⟩
      exact absurd q2 (by decide)
  refine Wx.tcallS (x := iX10_target) (y := iX10_needState) (j := 9) (k' := 1) (avs := [_]) (rest := []) hC hN hT hst hex tkX10_target rfl rfl rfl kX10_needState rfl (M_needState _ _ 1 rfl) rfl (Nat.le_of_ble_eq_true rfl) (by exact nol rfl) (by decide) ?_ ?_
  · rintro E mm' o' ⟨q2, -⟩
    exact nomatch (q2.symm.trans (by decide : stC 1 = none))
  rintro r mm' o' ⟨-, rfl, rfl, rfl⟩
  have hp : rd mm 5 0 7 < 24 := by rw [wr_rd, show wr 24 = 24 from rfl] at q; omega
  have c9 : stC (bz (rd mm 5 0 7 < 24)) = none := (congrArg stC (bz_t hp)).trans rfl
  refine wpt (n := 10) hC tkX10_target hF (by decide) [] 200 ?_
  refine ⟨⟨ht0, hp⟩, ?_⟩
  refine Wx.gcallU (n := 4) (y := iX0_aimAt) (k := 18) (avs := [_, _, _, _]) (rest := []) hC hN ⟨by decide, by decide⟩ tkX10_target rfl aim_ws18 rfl ⟨by decide, by decide, by decide +kernel⟩ ⟨by decide, by decide⟩ (M_aimAt_18 _ _ _ _ _ _ _) ⟨rfl, rfl⟩ rfl (Nat.le_of_ble_eq_true rfl) (by exact nol rfl) ?_
  rintro r mm' o' ⟨rfl, rfl, rfl⟩
  have a2 : 0 ≤ a ∧ a < 8 := by omega
  refine wpt (n := 10) hC tkX10_target hF (by decide) [] 200 ?_
  exact ⟨a2, a2, (ck_r c1 (ck_r c2 (ck_r c3 (ck_r c4 (ck_r c5 (ck_r c6 (ck_r c7 (ck_r c8 (c9))))))))), rfl, rfl, rfl⟩
def alC (mm : Mm) (a b c9 d e9 f g h v : Int) : Mm := st (st (st (st (aimC (st mm 5 0 8 (wr (rd mm 5 0 8 + 1))) 19 (rd mm 5 0 8) c9 d e9 f) 19 (rd mm 5 0 8) 0 (wr a)) 19 (rd mm 5 0 8) 9 (wr b)) 19 (rd mm 5 0 8) 10 (wr (g * 24 + h))) 19 (rd mm 5 0 8) 11 (wr (g * 24 + v))
set_option maxRecDepth 100000 in
set_option maxHeartbeats 400000 in
theorem M_alert (mm : Mm) (o : Int64) (a b c0 d0 e0 f0 g0 h0 v0 : Int) (ha : wr a = a) (hb : wr b = b) (hc : wr c0 = c0) (hd : wr d0 = d0) (he : wr e0 = e0) (hf : wr f0 = f0) (hg : wr g0 = g0) (hh : wr h0 = h0) (hv : wr v0 = v0) (hI : IA mm) : MetT iX10_alert 11 [xr 1 0, xi a, xi b, xi c0, xi d0, xi e0, xi f0, xi g0, xi h0, xi v0] mm o (tF (ck (ixC a 4) (ck (ixC f0 3) (ck (ixC g0 30) (ck (ixC h0 24) (ck (ixC v0 24) (ck (rgC b 1 9) (ck (ck (rgC c0 0 359) (rgC d0 (-90) 90)) (ck (rgC e0 1 6) (ck (orC h0 v0) (stC (bz (rd mm 5 0 8 < 10)))))))))))) (rto (xi (rd mm 5 0 8)) (alC mm a b c0 d0 e0 f0 g0 h0 v0) o)) (tG (ck (ixC a 4) (ck (ixC f0 3) (ck (ixC g0 30) (ck (ixC h0 24) (ck (ixC v0 24) (ck (rgC b 1 9) (ck (ck (rgC c0 0 359) (rgC d0 (-90) 90)) (ck (rgC e0 1 6) (ck (orC h0 v0) (stC (bz (rd mm 5 0 8 < 10)))))))))))) mm o) := by
  refine MetT.of 1 (by decide +kernel) rfl (Nat.le_of_ble_eq_true rfl) ⟨by decide, by decide⟩ ?_
  intro p l e s m args below meth c V D ad hC hN hT hst hex hok hF
  have ht0 := hI.2.2.2.2.2.1
  refine wpt0 hC tkX10_alert hF [] 200 ?_
  refine Wx.tcallS (x := iX10_alert) (y := iX10_needIndex) (j := 0) (k' := 1) (avs := [_, _]) (rest := []) hC hN hT hst hex tkX10_alert rfl rfl rfl kX10_needIndex rfl (M_needIndex _ _ _ _ ha rfl) rfl (Nat.le_of_ble_eq_true rfl) (by exact nol rfl) (by decide) ?_ ?_
  · rintro E mm' o' ⟨q, rfl, rfl⟩
    exact ⟨ck_l q, rfl, rfl⟩
  rintro r mm' o' ⟨c1, rfl, rfl, rfl⟩
  refine wpt (n := 1) hC tkX10_alert hF (by decide) [] 200 ?_
  refine Wx.tcallS (x := iX10_alert) (y := iX10_needIndex) (j := 1) (k' := 1) (avs := [_, _]) (rest := []) hC hN hT hst hex tkX10_alert rfl rfl rfl kX10_needIndex rfl (M_needIndex _ _ _ _ hf rfl) rfl (Nat.le_of_ble_eq_true rfl) (by exact nol rfl) (by decide) ?_ ?_
  · rintro E mm' o' ⟨q, rfl, rfl⟩
    exact ⟨ck_r c1 (ck_l q), rfl, rfl⟩
  rintro r mm' o' ⟨c2, rfl, rfl, rfl⟩
  refine wpt (n := 2) hC tkX10_alert hF (by decide) [] 200 ?_
  refine Wx.tcallS (x := iX10_alert) (y := iX10_needIndex) (j := 2) (k' := 1) (avs := [_, _]) (rest := []) hC hN hT hst hex tkX10_alert rfl rfl rfl kX10_needIndex rfl (M_needIndex _ _ _ _ hg rfl) rfl (Nat.le_of_ble_eq_true rfl) (by exact nol rfl) (by decide) ?_ ?_
  · rintro E mm' o' ⟨q, rfl, rfl⟩
    exact ⟨ck_r c1 (ck_r c2 (ck_l q)), rfl, rfl⟩
  rintro r mm' o' ⟨c3, rfl, rfl, rfl⟩
  refine wpt (n := 3) hC tkX10_alert hF (by decide) [] 200 ?_
  refine Wx.tcallS (x := iX10_alert) (y := iX10_needIndex) (j := 3) (k' := 1) (avs := [_, _]) (rest := []) hC hN hT hst hex tkX10_alert rfl rfl rfl kX10_needIndex rfl (M_needIndex _ _ _ _ hh rfl) rfl (Nat.le_of_ble_eq_true rfl) (by exact nol rfl) (by decide) ?_ ?_
  · rintro E mm' o' ⟨q, rfl, rfl⟩
    exact ⟨ck_r c1 (ck_r c2 (ck_r c3 (ck_l q))), rfl, rfl⟩
  rintro r mm' o' ⟨c4, rfl, rfl, rfl⟩
  refine wpt (n := 4) hC tkX10_alert hF (by decide) [] 200 ?_
  refine Wx.tcallS (x := iX10_alert) (y := iX10_needIndex) (j := 4) (k' := 1) (avs := [_, _]) (rest := []) hC hN hT hst hex tkX10_alert rfl rfl rfl kX10_needIndex rfl (M_needIndex _ _ _ _ hv rfl) rfl (Nat.le_of_ble_eq_true rfl) (by exact nol rfl) (by decide) ?_ ?_
  · rintro E mm' o' ⟨q, rfl, rfl⟩
    exact ⟨ck_r c1 (ck_r c2 (ck_r c3 (ck_r c4 (ck_l q)))), rfl, rfl⟩
  rintro r mm' o' ⟨c5, rfl, rfl, rfl⟩
  refine wpt (n := 5) hC tkX10_alert hF (by decide) [] 200 ?_
  refine Wx.tcallS (x := iX10_alert) (y := iX10_needRange) (j := 5) (k' := 1) (avs := [_, _, _]) (rest := []) hC hN hT hst hex tkX10_alert rfl rfl rfl kX10_needRange rfl (M_needRange _ _ _ _ _ hb rfl rfl) rfl (Nat.le_of_ble_eq_true rfl) (by exact nol rfl) (by decide) ?_ ?_
  · rintro E mm' o' ⟨q, rfl, rfl⟩
    exact ⟨ck_r c1 (ck_r c2 (ck_r c3 (ck_r c4 (ck_r c5 (ck_l q))))), rfl, rfl⟩
  rintro r mm' o' ⟨c6, rfl, rfl, rfl⟩
  refine wpt (n := 6) hC tkX10_alert hF (by decide) [] 200 ?_
  refine Wx.tcallS (x := iX10_alert) (y := iX10_needSky) (j := 6) (k' := 2) (avs := [_, _]) (rest := []) hC hN hT hst hex tkX10_alert rfl rfl rfl kX10_needSky rfl (M_needSky _ _ _ _ hc hd) rfl (Nat.le_of_ble_eq_true rfl) (by exact nol rfl) (by decide) ?_ ?_
  · rintro E mm' o' ⟨q, rfl, rfl⟩
    exact ⟨ck_r c1 (ck_r c2 (ck_r c3 (ck_r c4 (ck_r c5 (ck_r c6 (ck_l q)))))), rfl, rfl⟩
  rintro r mm' o' ⟨c7, rfl, rfl, rfl⟩
  refine wpt (n := 8) hC tkX10_alert hF (by decide) [] 200 ?_
  refine Wx.tcallS (x := iX10_alert) (y := iX10_needRange) (j := 8) (k' := 1) (avs := [_, _, _]) (rest := []) hC hN hT hst hex tkX10_alert rfl rfl rfl kX10_needRange rfl (M_needRange _ _ _ _ _ he rfl rfl) rfl (Nat.le_of_ble_eq_true rfl) (by exact nol rfl) (by decide) ?_ ?_
  · rintro E mm' o' ⟨q, rfl, rfl⟩
    exact ⟨ck_r c1 (ck_r c2 (ck_r c3 (ck_r c4 (ck_r c5 (ck_r c6 (ck_r c7 (ck_l q))))))), rfl, rfl⟩
  rintro r mm' o' ⟨c8, rfl, rfl, rfl⟩
  refine wpt (n := 9) hC tkX10_alert hF (by decide) [] 200 ?_
  refine Wx.tcallS (x := iX10_alert) (y := iX10_needOrder) (j := 9) (k' := 1) (avs := [_, _]) (rest := []) hC hN hT hst hex tkX10_alert rfl rfl rfl kX10_needOrder rfl (M_needOrder _ _ _ _ hh hv) rfl (Nat.le_of_ble_eq_true rfl) (by exact nol rfl) (by decide) ?_ ?_
  · rintro E mm' o' ⟨q, rfl, rfl⟩
    exact ⟨ck_r c1 (ck_r c2 (ck_r c3 (ck_r c4 (ck_r c5 (ck_r c6 (ck_r c7 (ck_r c8 (ck_l q)))))))), rfl, rfl⟩
  rintro r mm' o' ⟨c9, rfl, rfl, rfl⟩
  refine wpt (n := 10) hC tkX10_alert hF (by decide) [] 200 ?_
  refine ⟨fun q => ?_, fun q => ?_⟩
  · refine Wx.tcallS (x := iX10_alert) (y := iX10_needState) (j := 10) (k' := 1) (avs := [_]) (rest := []) hC hN hT hst hex tkX10_alert rfl rfl rfl kX10_needState rfl (M_needState _ _ 0 rfl) rfl (Nat.le_of_ble_eq_true rfl) (by exact nol rfl) (by decide) ?_ ?_
    · rintro E mm' o' ⟨q2, rfl, rfl⟩
      exact ⟨ck_r c1 (ck_r c2 (ck_r c3 (ck_r c4 (ck_r c5 (ck_r c6 (ck_r c7 (ck_r c8 (ck_r c9 ((congrArg stC (bz_f (by rw [wr_rd, show wr 10 = 10 from rfl] at q; omega))).trans q2))))))))), rfl, rfl⟩
    · rintro r mm' o' ⟨q2, -⟩
      exact absurd q2 (by decide)
  refine Wx.tcallS (x := iX10_alert) (y := iX10_needState) (j := 10) (k' := 1) (avs := [_]) (rest := []) hC hN hT hst hex tkX10_alert rfl rfl rfl kX10_needState rfl (M_needState _ _ 1 rfl) rfl (Nat.le_of_ble_eq_true rfl) (by exact nol rfl) (by decide) ?_ ?_
  · rintro E mm' o' ⟨q2, -⟩
    exact nomatch (q2.symm.trans (by decide : stC 1 = none))
  rintro r mm' o' ⟨-, rfl, rfl, rfl⟩
  have hp : rd mm 5 0 8 < 10 := by rw [wr_rd, show wr 10 = 10 from rfl] at q; omega
  have c10 : stC (bz (rd mm 5 0 8 < 10)) = none := (congrArg stC (bz_t hp)).trans rfl
  refine wpt (n := 11) hC tkX10_alert hF (by decide) [] 200 ?_
  refine ⟨⟨ht0, hp⟩, ?_⟩
  refine Wx.gcallU (n := 4) (y := iX0_aimAt) (k := 19) (avs := [_, _, _, _]) (rest := []) hC hN ⟨by decide, by decide⟩ tkX10_alert rfl aim_ws19 rfl ⟨by decide, by decide, by decide +kernel⟩ ⟨by decide, by decide⟩ (M_aimAt_19 _ _ _ _ _ _ _) ⟨rfl, rfl⟩ rfl (Nat.le_of_ble_eq_true rfl) (by exact nol rfl) ?_
  rintro r mm' o' ⟨rfl, rfl, rfl⟩
  refine wpt (n := 11) hC tkX10_alert hF (by decide) [] 200 ?_
  exact ⟨(ck_r c1 (ck_r c2 (ck_r c3 (ck_r c4 (ck_r c5 (ck_r c6 (ck_r c7 (ck_r c8 (ck_r c9 (c10)))))))))), rfl, rfl, rfl⟩
