/-! ===== aimAt; target, alert ===== -/
section CTX
variable {p : Program} {l : Launch} {e : Env} {R : Room} {s : State} {m : MethodId} {args : Array Value} {below : List Frame} {meth : Method} {c : Code} {cells slots : Nat} {Q : State → Prop} {V : Nat → Int → Prop} {D : DD} {ad : Nat → Int → Nat} {A : Nat → Prop} {nL : Nat} {own : String} {cc : ByteArray}
/-- a call by the name of a heir -/
theorem Wx.gcallU {y : MI} {x : MethodName} {Cn : String} {n : Nat} {k : Nat} {i : Int} {avs rest : List AV} {mm : Mm} {o : Int64} {F : FT} {pc : Nat} {L : List (Nat × AV)} (hC : Cx V own cc nL p R s m args meth c D ad A) (hN : wNest s) (hcs : cells ≤ R.cells ∧ slots ≤ R.slots) {C : CT} (hcode : C.all (cOK own cc) = true) {idx nx sl dc ty rc p1 p2 : Nat} {sj : Int} (hg : cget C pc = some (.invokevirtual idx, nx, sl, sj, dc, ty, rc, p1, p2)) (hws : ∀ w ∈ va_wsU own idx Cn y.1.cls x y.1 (mws y), w ∈ UW) (hyx : y.1 = ⟨y.1.cls, x.name, x.desc⟩)
    (hd9 : y.1.cls ≠ "java/lang/invoke/MethodHandle" ∧ y.1.cls ≠ "java/lang/invoke/VarHandle" ∧ (parseMethodDescriptor x.desc).map (fun d => d.parameters.length) = some n) (hrm : y.2.2.2.2.2.1 + 1 ≤ R.frames ∧ 8 + (y.2.2.1 + 11) + y.2.2.2.2.2.2 ≤ R.locals)
    (hM : MetX y (xr k i :: avs) mm o F) (hk : kt k = 1 ∧ cNm.getD (kc k) "" = Cn) (hn : avs.length = n) (hrest : rest.length ≤ 4) (hav : ∀ v ∈ avs, okv V v → okl V v)
    (kk : ∀ r mm' o', F r mm' o' → Wx p l e R s m args below meth c cells slots Q V D ad A nL (pc + 3) L (r.toList ++ rest) mm' o') : Wx p l e R s m args below meth c cells slots Q V D ad A nL pc L (avs.reverse ++ xr k i :: rest) mm o := by
  intro H locs ls hW hS hl hL hv
  have he := List.all_eq_true.mp hcode _ (cget_mem hg)
  obtain ⟨hd, hnx⟩ := cOK_spec he 3 rfl (by decide)
  have hts := hC.2.2.2.2.1
  have hVki : V k i := hv (xr k i) (List.mem_append_right _ List.mem_cons_self)
  have cw : va_CU R s args own Cn y.1.cls idx x y.1 y.2.1 y.2.2.1 y.2.2.2.1 (mws y) (mrm y) 0 0 n :=
    va_cwU n hts (uw_good hws) rfl rfl rfl hyx hd9 hrm
  have hWF : WF V ad := ⟨hC.2.2.2.2.2.2.2.2.1, hC.2.2.2.2.2.2.2.2.2.1⟩
  have hokA : ∀ v ∈ avs, okv V v := fun v hv' => hv v (List.mem_append_left _ (List.mem_reverse.mpr hv'))
  have hok : ∀ v ∈ xr k i :: avs, okl V v := fun v hv' => by
    rcases List.mem_cons.mp hv' with rfl | h
    · exact hVki
    · exact hav v h (hokA v h)
  have hK := hC.2.2.2.2.2.1
  have hrec : ∃ cellB : Cell, H[ad k i]? = some cellB ∧ cellB.vm.isStatics = false ∧ s.vm.findClass Cn = some cellB.cls := by
    obtain ⟨C1, T1, hc1, -, hKn⟩ := cx_xc hC hk.1
    obtain ⟨cell, q1, q2, q3, -⟩ := cell1 (hW k i hVki) hk.1
    refine ⟨cell, q1, by rw [q3]; rfl, ?_⟩
    rw [q2, ← hk.2]
    have : cNm.getD (kc k) "" = C1 := by
      have h11 := kc_tab k (kt_lt hk.1 (by decide)) hk.1
      have hh : ∀ j, j < 11 → (xCl[j]?.map fun q => q.1) = some (cNm.getD j "") := by decide +kernel
      have h12 := hh _ h11
      rw [hc1] at h12
      exact (Option.some.inj h12).symm
    rw [this]
    exact hKn.2.1
  rw [show (avs.reverse ++ xr k i :: rest).map (cv ad) = (avs.map (cv ad)).reverse ++ .ref (ad k i) :: rest.map (cv ad) by rw [List.map_append, List.map_reverse]; rfl]
  refine Wx.after hC hS hl hL (fun v hv' => hv v (List.mem_append_right _ (List.mem_cons_of_mem _ hv'))) (va_runU (As := avs.map (cv ad)) (rest := rest.map (cv ad)) ⟨hC.1, hC.2.1, hC.2.2.1, hC.2.2.2.1, hts⟩ (hM l V D ad H.size hWF hok) cw ⟨xB_blind, hrec, fun U hU hWm => ⟨rfl, by rw [hU], by rw [hU]; exact hW, va_K.moved hWm.alike hK, wNest_warm hWm hN⟩⟩ rfl (by rw [List.length_map]; exact hn) hl.1 rfl (lv_room (cat_le hrest)) hd hcs) kk
end CTX
def aimC (mm : Mm) (k : Nat) (i a b c9 d : Int) : Mm := st (st (st (st mm k i 1 (wr a)) k i 2 (wr b)) k i 3 (wr c9)) k i 4 (wr d)
set_option maxRecDepth 100000 in
set_option maxHeartbeats 400000 in
theorem M_aimAt_18 (i a b c9 d9 : Int) (mm : Mm) (o : Int64)  : MetX iX0_aimAt [xr 18 i, xi a, xi b, xi c9, xi d9] mm o (rtv (aimC mm 18 i a b c9 d9) o) := by
  refine MetX.of 0 (by decide +kernel) rfl (Nat.le_of_ble_eq_true rfl) ⟨by decide, by decide⟩ ?_
  intro p l e s m args below meth c Q V D ad A hC hN hok hF
  refine wpx hC tkX0_aimAt hF [] 200 ?_
  exact ⟨rfl, rfl, rfl⟩
set_option maxRecDepth 100000 in
set_option maxHeartbeats 400000 in
theorem M_aimAt_19 (i a b c9 d9 : Int) (mm : Mm) (o : Int64)  : MetX iX0_aimAt [xr 19 i, xi a, xi b, xi c9, xi d9] mm o (rtv (aimC mm 19 i a b c9 d9) o) := by
  refine MetX.of 0 (by decide +kernel) rfl (Nat.le_of_ble_eq_true rfl) ⟨by decide, by decide⟩ ?_
  intro p l e s m args below meth c Q V D ad A hC hN hok hF
  refine wpx hC tkX0_aimAt hF [] 200 ?_
  exact ⟨rfl, rfl, rfl⟩
theorem aim_ws {idx p1 p2 p3 : Nat} {Cn : String} (h1 : lw_tbl[p1]? = some (.methodLink RX10 idx ⟨Cn, "aimAt", "(IIII)V"⟩)) (h2 : lw_tbl[p2]? = some (.sameMethod Cn RX0 "aimAt" "(IIII)V")) (h3 : lw_tbl[p3]? = some (.selects Cn ⟨Cn, "aimAt", "(IIII)V"⟩ yX0_aimAt)) (h4 : lw_tbl[698]? = some (.instanceMethod yX0_aimAt)) (h5 : lw_tbl[699]? = some (.code yX0_aimAt cX0_aimAt 5 none)) {pi : Nat} (h6 : lw_tbl[pi]? = some (.initialized RX0)) : ∀ w ∈ va_wsU RX10 idx Cn iX0_aimAt.1.cls ⟨Cn, "aimAt", "(IIII)V"⟩ iX0_aimAt.1 (mws iX0_aimAt), w ∈ UW := by
  intro w hw
  rcases List.mem_append.mp hw with h | h
  · simp only [List.mem_cons, List.not_mem_nil, or_false] at h
    rcases h with rfl | rfl | rfl | rfl | rfl
    · exact uw _ h1 rfl
    · exact uw _ h2 rfl
    · exact uw _ h3 rfl
    · exact uw _ h4 rfl
    · exact uw _ h6 rfl
  · rcases List.mem_cons.mp h with rfl | h
    · exact uw _ h5 rfl
    · exact h
theorem aim_ws18 : ∀ w ∈ va_wsU RX10 141 RX8 iX0_aimAt.1.cls ⟨RX8, "aimAt", "(IIII)V"⟩ iX0_aimAt.1 (mws iX0_aimAt), w ∈ UW := aim_ws (p1 := 694) (p2 := 695) (p3 := 697) (pi := 47) (by decide +kernel) (by decide +kernel) (by decide +kernel) (by decide +kernel) (by decide +kernel) (by decide +kernel)
theorem aim_ws19 : ∀ w ∈ va_wsU RX10 186 RX1 iX0_aimAt.1.cls ⟨RX1, "aimAt", "(IIII)V"⟩ iX0_aimAt.1 (mws iX0_aimAt), w ∈ UW := aim_ws (p1 := 714) (p2 := 715) (p3 := 716) (pi := 47) (by decide +kernel) (by decide +kernel) (by decide +kernel) (by decide +kernel) (by decide +kernel) (by decide +kernel)
